set_option maxRecDepth 100000 in
set_option maxHeartbeats 4000000 in
theorem w_J7_fill_53178 {E : Envt} {d : Nat} {Q : Pst} {h : mS} {I : mI} {L : mL} (hs : SL h) {a0 n0 : Nat} (x1 : Int32) (hl0 : a0 < h.2.2) (hk0 : h.1 a0 = (14, n0))
    (hW : J E mJ7_fill_53178 d Q 0 0 5 [some (.ref (eB E + a0)), some (.int x1), some (.int 0), some (.int (Int32.ofNat n0))] [] h I L) :
    CT E mJ7_fill_53178 d 0 0 [.ref (eB E + a0), .int x1] h I L Q := by
  refine CT.ofF (by decide +kernel) [some (.ref (eB E + a0)), some (.int x1), none, none] rfl (Nat.le_of_ble_eq_true rfl) ?_
  refine J.iconst (v := 0) dJ7_fill_53178_0 (by decide) ?_
  refine J.istore_n (vs' := [some (.ref (eB E + a0)), some (.int x1), some (.int 0), none]) dJ7_fill_53178_1 rfl (by decide) rfl ?_
  refine J.aload_n dJ7_fill_53178_2 rfl rfl ?_
  refine J.alen (v := Int32.ofNat n0) dJ7_fill_53178_3 hl0 hk0 (by decide) (by rfl) ?_
  refine J.istore_n (vs' := [some (.ref (eB E + a0)), some (.int x1), some (.int 0), some (.int (Int32.ofNat n0))]) dJ7_fill_53178_4 rfl (by decide) rfl ?_
  exact hW
set_option maxRecDepth 100000 in
set_option maxHeartbeats 4000000 in
theorem w_J7_fill_53178_5 {E : Envt} {d : Nat} {Q : Pst} {h : mS} {I : mI} {L : mL} (hs : SL h) {a0 n0 : Nat} (hl0 : a0 < h.2.2) (hk0 : h.1 a0 = (14, n0))  (x1 : Int32) (x2 : Int32) (x3 : Int32)
    (hW : (((x3 ≤ x2) → Q none h I L) ∧ (¬ (x3 ≤ x2) → (vp_in x2 n0 ∧ J E mJ7_fill_53178 d Q 0 0 5 [some (.ref (eB E + a0)), some (.int x1), some (.int (x2 + 1)), some (.int x3)] [] h (uI I a0 x2.toNatClampNeg x1) L)))) :
    J E mJ7_fill_53178 d Q 0 0 5 [some (.ref (eB E + a0)), some (.int x1), some (.int x2), some (.int x3)] [] h I L := by
  refine J.iload_n dJ7_fill_53178_5 rfl rfl ?_
  refine J.iload_n dJ7_fill_53178_6 rfl rfl ?_
  refine J.ic_ge 20 dJ7_fill_53178_7 (by decide) (fun hc1 => ?_) (fun hc1 => ?_)
  · have hW := hW.1 hc1
    exact J.retv dJ7_fill_53178_20 rfl hW
  · have hW := hW.2 hc1
    refine J.aload_n dJ7_fill_53178_10 rfl rfl ?_
    refine J.iload_n dJ7_fill_53178_11 rfl rfl ?_
    refine J.iload_n dJ7_fill_53178_12 rfl rfl ?_
    obtain ⟨hb2, hW⟩ := hW
    refine J.iast dJ7_fill_53178_13 hl0 hk0 hb2 ?_
    refine J.iinc (v := x2 + 1) (vs' := [some (.ref (eB E + a0)), some (.int x1), some (.int (x2 + 1)), some (.int x3)]) dJ7_fill_53178_14 rfl (by rfl) (by decide) rfl ?_
    refine J.goto 5 dJ7_fill_53178_17 (by decide) ?_
    exact hW
set_option maxRecDepth 100000 in
set_option maxHeartbeats 4000000 in
theorem w_J9_min_7cf53 {E : Envt} {d : Nat} {Q : Pst} {h : mS} {I : mI} {L : mL} (hs : SL h) (x0 : Int32) (x1 : Int32) 
    (hW : Q (some (.int (if x1 < x0 then x1 else x0 : Int32))) h I L) :
    CT E mJ9_min_7cf53 d 0 0 [.int x0, .int x1] h I L Q := by
  refine CT.ofF (by decide +kernel) [some (.int x0), some (.int x1)] rfl (Nat.le_of_ble_eq_true rfl) ?_
  refine J.iload_n dJ9_min_7cf53_0 rfl rfl ?_
  refine J.iload_n dJ9_min_7cf53_1 rfl rfl ?_
  have hj : J E mJ9_min_7cf53 d Q 0 0 10 [some (.int x0), some (.int x1)] [.int (if x1 < x0 then x1 else x0 : Int32)] h I L := by
    exact J.reti dJ9_min_7cf53_10 rfl rfl hW
  refine J.ic_gt 9 dJ9_min_7cf53_2 (by decide) (fun hc1 => ?_) (fun hc1 => ?_)
  · refine J.iload_n dJ9_min_7cf53_9 rfl rfl ?_
    rw [show ((if x1 < x0 then x1 else x0 : Int32) = x1) from by simp only [eq_true hc1, if_true, if_false, bI_true, bI_false, and_true, true_and, and_false, false_and, or_true, true_or, or_false, false_or, not_true_eq_false, not_false_eq_true]] at hj
    exact hj
  · refine J.iload_n dJ9_min_7cf53_5 rfl rfl ?_
    refine J.goto 10 dJ9_min_7cf53_6 (by decide) ?_
    rw [show ((if x1 < x0 then x1 else x0 : Int32) = x0) from by simp only [eq_false hc1, if_true, if_false, bI_true, bI_false, and_true, true_and, and_false, false_and, or_true, true_or, or_false, false_or, not_true_eq_false, not_false_eq_true]] at hj
    exact hj
set_option maxRecDepth 100000 in
set_option maxHeartbeats 4000000 in
theorem w_X11_copy {E : Envt} {d : Nat} {Q : Pst} {h : mS} {I : mI} {L : mL} (hs : SL h) {a0 n0 : Nat} {a1 n1 : Nat} (hl0 : a0 < h.2.2) (hk0 : h.1 a0 = (14, n0)) (hl1 : a1 < h.2.2) (hk1 : h.1 a1 = (14, n1))
    (hW : ((¬ (if (Int32.ofNat n1) < (Int32.ofNat n0) then (Int32.ofNat n1) else (Int32.ofNat n0) : Int32) < 0) ∧ ((0 + (if (Int32.ofNat n1) < (Int32.ofNat n0) then (Int32.ofNat n1) else (Int32.ofNat n0) : Int32).toNatClampNeg ≤ n0) ∧ ((0 + (if (Int32.ofNat n1) < (Int32.ofNat n0) then (Int32.ofNat n1) else (Int32.ofNat n0) : Int32).toNatClampNeg ≤ n1) ∧ Q none h (cpI I a0 a1 0 0 (if (Int32.ofNat n1) < (Int32.ofNat n0) then (Int32.ofNat n1) else (Int32.ofNat n0) : Int32).toNatClampNeg) L)))) :
    CT E mX11_copy (d + 1) 0 0 [.ref (eB E + a0), .ref (eB E + a1)] h I L Q := by
  refine CT.of (by decide) [some (.ref (eB E + a0)), some (.ref (eB E + a1))] rfl (Nat.le_of_ble_eq_true rfl) ?_
  refine J.aload_n dX11_copy_0 rfl rfl ?_
  refine J.iconst (v := 0) dX11_copy_1 (by decide) ?_
  refine J.aload_n dX11_copy_2 rfl rfl ?_
  refine J.iconst (v := 0) dX11_copy_3 (by decide) ?_
  refine J.aload_n dX11_copy_4 rfl rfl ?_
  refine J.alen (v := Int32.ofNat n0) dX11_copy_5 hl0 hk0 (by decide) (by rfl) ?_
  refine J.aload_n dX11_copy_6 rfl rfl ?_
  refine J.alen (v := Int32.ofNat n1) dX11_copy_7 hl1 hk1 (by decide) (by rfl) ?_
  refine J.callS (M' := mJ9_min_7cf53) (index := 395) (bc := 0) (bs := 0) (bc' := 0) (bs' := 0) (st := [.int 0, .ref (eB E + a1), .int 0, .ref (eB E + a0)]) [.int (Int32.ofNat n0), .int (Int32.ofNat n1)] ml_X11_395 cv_J9_min_7cf53 dX11_copy_8 rfl rfl (Nat.le_of_ble_eq_true rfl) (kqi (w_J9_min_7cf53 (d := d) (Q := qi h L (fun v I' => I' = I ∧ v = (if (Int32.ofNat n1) < (Int32.ofNat n0) then (Int32.ofNat n1) else (Int32.ofNat n0) : Int32))) hs (Int32.ofNat n0) (Int32.ofNat n1) ⟨rfl, rfl, _, rfl, rfl, rfl⟩) (fun v1 I2 hv => ?_))
  rw [hv.1, hv.2]
  obtain ⟨hn3, hW⟩ := hW
  obtain ⟨hn4, hW⟩ := hW
  obtain ⟨hn5, hW⟩ := hW
  refine J.copyI ml_X11_400 dX11_copy_11 (Nat.le_of_ble_eq_true rfl) hl0 hk0 hl1 hk1 (by decide) (by decide) hn3 hn4 hn5 ac_native ac_static inJ10 ?_
  exact J.retv dX11_copy_14 rfl hW
set_option maxRecDepth 100000 in
set_option maxHeartbeats 4000000 in
theorem w_X0_write {E : Envt} {d : Nat} {Q : Pst} {h : mS} {I : mI} {L : mL} (hs : SL h) (x1 : Int32) 
    (hW : J E mX0_write d Q 0 0 3 [some (.ref (eB E + 1)), some (.int x1), some (.int 24)] [] h I L) :
    CT E mX0_write d 0 0 [.ref (eB E + 1), .int x1] h I L Q := by
  refine CT.of (by decide) [some (.ref (eB E + 1)), some (.int x1), none] rfl (Nat.le_of_ble_eq_true rfl) ?_
  refine J.bipush (v := 24) dX0_write_0 (by decide) ?_
  refine J.istore_n (vs' := [some (.ref (eB E + 1)), some (.int x1), some (.int 24)]) dX0_write_2 rfl (by decide) rfl ?_
  exact hW
set_option maxRecDepth 100000 in
set_option maxHeartbeats 4000000 in
theorem w_X0_write_3 {E : Envt} {d : Nat} {Q : Pst} {h : mS} {I : mI} {L : mL} (hs : SL h)    (x1 : Int32) (x2 : Int32)
    (hW : (((x2 < 0) → Q none h I L) ∧ (¬ (x2 < 0) → (((500 ≤ (I 1 7)) → Q none h I L) ∧ (¬ (500 ≤ (I 1 7)) → (vp_in (I 1 7) 500 ∧ J E mX0_write d Q 0 0 3 [some (.ref (eB E + 1)), some (.int x1), some (.int (x2 + (-8)))] [] h (uI (uI I 37 ((I 1 7).toNatClampNeg) ((x1 >>> (x2 &&& 31)).toInt8.toInt32)) 1 7 ((I 1 7) + 1)) L)))))) :
    J E mX0_write d Q 0 0 3 [some (.ref (eB E + 1)), some (.int x1), some (.int x2)] [] h I L := by
  refine J.iload_n dX0_write_3 rfl rfl ?_
  refine J.if_lt 46 dX0_write_4 (by decide) (fun hc1 => ?_) (fun hc1 => ?_)
  · have hW := hW.1 hc1
    exact J.retv dX0_write_46 rfl hW
  · have hW := hW.2 hc1
    refine J.aload_n dX0_write_7 rfl rfl ?_
    refine J.getI (x := I 1 7) fl_X0_56 rfl dX0_write_8 (lt1 hs) (kk1 hs) rfl ?_
    refine J.sipush (v := 500) dX0_write_11 (by decide) ?_
    refine J.ic_ge 46 dX0_write_14 (by decide) (fun hc2 => ?_) (fun hc2 => ?_)
    · have hW := hW.1 hc2
      exact J.retv dX0_write_46 rfl hW
    · have hW := hW.2 hc2
      refine J.aload_n dX0_write_17 rfl rfl ?_
      refine J.getR (r := 37) fl_X0_45 rfl dX0_write_18 (lt1 hs) (kk1 hs) (rr1_6 hs) ?_
      refine J.aload_n dX0_write_21 rfl rfl ?_
      refine J.getI (x := I 1 7) fl_X0_56 rfl dX0_write_22 (lt1 hs) (kk1 hs) rfl ?_
      refine J.iload_n dX0_write_25 rfl rfl ?_
      refine J.iload_n dX0_write_26 rfl rfl ?_
      refine J.ishr dX0_write_27 ?_
      refine J.i2b dX0_write_28 ?_
      obtain ⟨hb3, hW⟩ := hW
      refine J.bast dX0_write_29 (lt37 hs) (kk37 hs) hb3 ?_
      refine J.aload_n dX0_write_30 rfl rfl ?_
      refine J.dup dX0_write_31 rfl ?_
      refine J.getI (x := I 1 7) fl_X0_56 rfl dX0_write_32 (lt1 hs) (kk1 hs) rfl ?_
      refine J.iconst (v := 1) dX0_write_35 (by decide) ?_
      refine J.iadd dX0_write_36 ?_
      refine J.putI fw_X0_56 rfl dX0_write_37 (lt1 hs) (kk1 hs) ?_
      refine J.iinc (v := x2 + (-8)) (vs' := [some (.ref (eB E + 1)), some (.int x1), some (.int (x2 + (-8)))]) dX0_write_40 rfl (by rfl) (by decide) rfl ?_
      refine J.goto 3 dX0_write_43 (by decide) ?_
      exact hW
set_option maxRecDepth 100000 in
set_option maxHeartbeats 4000000 in
theorem w_X0_villageOf {E : Envt} {d : Nat} {Q : Pst} {h : mS} {I : mI} {L : mL} (hs : SL h) (x1 : Int32) 
    (hW : (vp_in x1 20 ∧ (vp_in (I 8 x1.toNatClampNeg) 8 ∧ Q (some (.int (I 4 ((I 8 x1.toNatClampNeg).toNatClampNeg)))) h I L))) :
    CT E mX0_villageOf d 0 0 [.ref (eB E + 1), .int x1] h I L Q := by
  refine CT.of (by decide) [some (.ref (eB E + 1)), some (.int x1)] rfl (Nat.le_of_ble_eq_true rfl) ?_
  refine J.aload_n dX0_villageOf_0 rfl rfl ?_
  refine J.getR (r := 2) fl_X0_12 rfl dX0_villageOf_1 (lt1 hs) (kk1 hs) (rr1_1 hs) ?_
  refine J.getR (r := 4) fl_X0_59 rfl dX0_villageOf_4 (lt2 hs) (kk2 hs) (rr2_2 hs) ?_
  refine J.aload_n dX0_villageOf_7 rfl rfl ?_
  refine J.getR (r := 7) fl_X0_21 rfl dX0_villageOf_8 (lt1 hs) (kk1 hs) (rr1_2 hs) ?_
  refine J.getR (r := 8) fl_X0_63 rfl dX0_villageOf_11 (lt7 hs) (kk7 hs) (rr7_1 hs) ?_
  refine J.iload_n dX0_villageOf_14 rfl rfl ?_
  obtain ⟨hb1, hW⟩ := hW
  refine J.iald (x := I 8 x1.toNatClampNeg) dX0_villageOf_15 (lt8 hs) (kk8 hs) hb1 rfl ?_
  obtain ⟨hb2, hW⟩ := hW
  refine J.iald (x := I 4 ((I 8 x1.toNatClampNeg).toNatClampNeg)) dX0_villageOf_16 (lt4 hs) (kk4 hs) hb2 rfl ?_
  exact J.reti dX0_villageOf_17 rfl rfl hW
set_option maxRecDepth 100000 in
set_option maxHeartbeats 4000000 in
theorem w_X0_customOf {E : Envt} {d : Nat} {Q : Pst} {h : mS} {I : mI} {L : mL} (hs : SL h) (x1 : Int32) 
    (hW : (vp_in x1 8 ∧ (vp_in (I 4 x1.toNatClampNeg) 7 ∧ (∃ t3 : Nat, h.2.1 36 (I 4 x1.toNatClampNeg).toNatClampNeg = some t3 ∧ Q (some (.ref (eB E + t3))) h I L)))) :
    CT E mX0_customOf d 0 0 [.ref (eB E + 1), .int x1] h I L Q := by
  refine CT.of (by decide) [some (.ref (eB E + 1)), some (.int x1)] rfl (Nat.le_of_ble_eq_true rfl) ?_
  refine J.aload_n dX0_customOf_0 rfl rfl ?_
  refine J.getR (r := 36) fl_X0_41 rfl dX0_customOf_1 (lt1 hs) (kk1 hs) (rr1_5 hs) ?_
  refine J.aload_n dX0_customOf_4 rfl rfl ?_
  refine J.getR (r := 2) fl_X0_12 rfl dX0_customOf_5 (lt1 hs) (kk1 hs) (rr1_1 hs) ?_
  refine J.getR (r := 4) fl_X0_59 rfl dX0_customOf_8 (lt2 hs) (kk2 hs) (rr2_2 hs) ?_
  refine J.iload_n dX0_customOf_11 rfl rfl ?_
  obtain ⟨hb1, hW⟩ := hW
  refine J.iald (x := I 4 x1.toNatClampNeg) dX0_customOf_12 (lt4 hs) (kk4 hs) hb1 rfl ?_
  obtain ⟨hb2, hW⟩ := hW
  obtain ⟨t3, hot3, hW⟩ := hW
  refine J.aald (v := .ref (eB E + t3)) dX0_customOf_13 (lt36 hs) (kk36 hs) (by decide) hb2 (by rw [hot3]; rfl) ?_
  exact J.ret (some (.ref (eB E + t3))) ⟨dX0_customOf_14, _, rfl⟩ hW
set_option maxRecDepth 100000 in
set_option maxHeartbeats 4000000 in
theorem w_X11_copyFlags {E : Envt} {d : Nat} {Q : Pst} {h : mS} {I : mI} {L : mL} (hs : SL h) {a0 n0 : Nat} {a1 n1 : Nat} (hl0 : a0 < h.2.2) (hk0 : h.1 a0 = (16, n0)) (hl1 : a1 < h.2.2) (hk1 : h.1 a1 = (16, n1))
    (hW : J E mX11_copyFlags d Q 0 0 2 [some (.ref (eB E + a0)), some (.ref (eB E + a1)), some (.int 0)] [] h I L) :
    CT E mX11_copyFlags d 0 0 [.ref (eB E + a0), .ref (eB E + a1)] h I L Q := by
  refine CT.of (by decide) [some (.ref (eB E + a0)), some (.ref (eB E + a1)), none] rfl (Nat.le_of_ble_eq_true rfl) ?_
  refine J.iconst (v := 0) dX11_copyFlags_0 (by decide) ?_
  refine J.istore_n (vs' := [some (.ref (eB E + a0)), some (.ref (eB E + a1)), some (.int 0)]) dX11_copyFlags_1 rfl (by decide) rfl ?_
  exact hW
set_option maxRecDepth 100000 in
set_option maxHeartbeats 4000000 in
theorem w_X11_copyFlags_2 {E : Envt} {d : Nat} {Q : Pst} {h : mS} {I : mI} {L : mL} (hs : SL h) {a0 n0 : Nat} {a1 n1 : Nat} (hl0 : a0 < h.2.2) (hk0 : h.1 a0 = (16, n0)) (hl1 : a1 < h.2.2) (hk1 : h.1 a1 = (16, n1))  (x2 : Int32)
    (hW : ((((Int32.ofNat n0) ≤ x2) → Q none h I L) ∧ (¬ ((Int32.ofNat n0) ≤ x2) → ((((Int32.ofNat n1) ≤ x2) → Q none h I L) ∧ (¬ ((Int32.ofNat n1) ≤ x2) → (vp_in x2 n0 ∧ (vp_in x2 n1 ∧ (bz (I a0 x2.toNatClampNeg) ∧ J E mX11_copyFlags d Q 0 0 2 [some (.ref (eB E + a0)), some (.ref (eB E + a1)), some (.int (x2 + 1))] [] h (uI I a1 x2.toNatClampNeg (I a0 x2.toNatClampNeg)) L)))))))) :
    J E mX11_copyFlags d Q 0 0 2 [some (.ref (eB E + a0)), some (.ref (eB E + a1)), some (.int x2)] [] h I L := by
  refine J.iload_n dX11_copyFlags_2 rfl rfl ?_
  refine J.aload_n dX11_copyFlags_3 rfl rfl ?_
  refine J.alen (v := Int32.ofNat n0) dX11_copyFlags_4 hl0 hk0 (by decide) (by rfl) ?_
  refine J.ic_ge 26 dX11_copyFlags_5 (by decide) (fun hc1 => ?_) (fun hc1 => ?_)
  · have hW := hW.1 hc1
    exact J.retv dX11_copyFlags_26 rfl hW
  · have hW := hW.2 hc1
    refine J.iload_n dX11_copyFlags_8 rfl rfl ?_
    refine J.aload_n dX11_copyFlags_9 rfl rfl ?_
    refine J.alen (v := Int32.ofNat n1) dX11_copyFlags_10 hl1 hk1 (by decide) (by rfl) ?_
    refine J.ic_ge 26 dX11_copyFlags_11 (by decide) (fun hc2 => ?_) (fun hc2 => ?_)
    · have hW := hW.1 hc2
      exact J.retv dX11_copyFlags_26 rfl hW
    · have hW := hW.2 hc2
      refine J.aload_n dX11_copyFlags_14 rfl rfl ?_
      refine J.iload_n dX11_copyFlags_15 rfl rfl ?_
      refine J.aload_n dX11_copyFlags_16 rfl rfl ?_
      refine J.iload_n dX11_copyFlags_17 rfl rfl ?_
      obtain ⟨hb3, hW⟩ := hW
      refine J.zald (x := I a0 x2.toNatClampNeg) dX11_copyFlags_18 hl0 hk0 hb3 rfl ?_
      obtain ⟨hb4, hW⟩ := hW
      obtain ⟨hz, hW⟩ := hW
      refine J.zast dX11_copyFlags_19 hl1 hk1 hb4 hz ?_
      refine J.iinc (v := x2 + 1) (vs' := [some (.ref (eB E + a0)), some (.ref (eB E + a1)), some (.int (x2 + 1))]) dX11_copyFlags_20 rfl (by rfl) (by decide) rfl ?_
      refine J.goto 2 dX11_copyFlags_23 (by decide) ?_
      exact hW
set_option maxRecDepth 100000 in
set_option maxHeartbeats 4000000 in
theorem w_X11_copyTexts {E : Envt} {d : Nat} {Q : Pst} {h : mS} {I : mI} {L : mL} (hs : SL h) {a0 n0 : Nat} {a1 n1 : Nat} (hl0 : a0 < h.2.2) (hk0 : h.1 a0 = (18, n0)) (hl1 : a1 < h.2.2) (hk1 : h.1 a1 = (18, n1))
    (hW : J E mX11_copyTexts d Q 0 0 2 [some (.ref (eB E + a0)), some (.ref (eB E + a1)), some (.int 0)] [] h I L) :
    CT E mX11_copyTexts d 0 0 [.ref (eB E + a0), .ref (eB E + a1)] h I L Q := by
  refine CT.of (by decide) [some (.ref (eB E + a0)), some (.ref (eB E + a1)), none] rfl (Nat.le_of_ble_eq_true rfl) ?_
  refine J.iconst (v := 0) dX11_copyTexts_0 (by decide) ?_
  refine J.istore_n (vs' := [some (.ref (eB E + a0)), some (.ref (eB E + a1)), some (.int 0)]) dX11_copyTexts_1 rfl (by decide) rfl ?_
  exact hW
set_option maxRecDepth 100000 in
set_option maxHeartbeats 4000000 in
theorem w_X11_copyTexts_2 {E : Envt} {d : Nat} {Q : Pst} {h : mS} {I : mI} {L : mL} (hs : SL h) {a0 n0 : Nat} {a1 n1 : Nat} (hl0 : a0 < h.2.2) (hk0 : h.1 a0 = (18, n0)) (hl1 : a1 < h.2.2) (hk1 : h.1 a1 = (18, n1))  (x2 : Int32)
    (hW : ((((Int32.ofNat n0) ≤ x2) → Q none h I L) ∧ (¬ ((Int32.ofNat n0) ≤ x2) → ((((Int32.ofNat n1) ≤ x2) → Q none h I L) ∧ (¬ ((Int32.ofNat n1) ≤ x2) → (vp_in x2 n0 ∧ ((h.2.1 a0 x2.toNatClampNeg = none → (vp_in x2 n1 ∧ (SL (uRh h a1 x2.toNatClampNeg none) ∧ J E mX11_copyTexts d Q 0 0 2 [some (.ref (eB E + a0)), some (.ref (eB E + a1)), some (.int (x2 + 1))] [] (uRh h a1 x2.toNatClampNeg none) I L))) ∧ (∀ t5 : Nat, h.2.1 a0 x2.toNatClampNeg = some t5 → (vp_in x2 n1 ∧ (∃ nl10 nt11 : Nat, LT h t5 nl10 nt11 ∧ (SL (uRh h a1 x2.toNatClampNeg (some t5)) ∧ J E mX11_copyTexts d Q 0 0 2 [some (.ref (eB E + a0)), some (.ref (eB E + a1)), some (.int (x2 + 1))] [] (uRh h a1 x2.toNatClampNeg (some t5)) I L))))))))))) :
    J E mX11_copyTexts d Q 0 0 2 [some (.ref (eB E + a0)), some (.ref (eB E + a1)), some (.int x2)] [] h I L := by
  refine J.iload_n dX11_copyTexts_2 rfl rfl ?_
  refine J.aload_n dX11_copyTexts_3 rfl rfl ?_
  refine J.alen (v := Int32.ofNat n0) dX11_copyTexts_4 hl0 hk0 (by decide) (by rfl) ?_
  refine J.ic_ge 26 dX11_copyTexts_5 (by decide) (fun hc1 => ?_) (fun hc1 => ?_)
  · have hW := hW.1 hc1
    exact J.retv dX11_copyTexts_26 rfl hW
  · have hW := hW.2 hc1
    refine J.iload_n dX11_copyTexts_8 rfl rfl ?_
    refine J.aload_n dX11_copyTexts_9 rfl rfl ?_
    refine J.alen (v := Int32.ofNat n1) dX11_copyTexts_10 hl1 hk1 (by decide) (by rfl) ?_
    refine J.ic_ge 26 dX11_copyTexts_11 (by decide) (fun hc2 => ?_) (fun hc2 => ?_)
    · have hW := hW.1 hc2
      exact J.retv dX11_copyTexts_26 rfl hW
    · have hW := hW.2 hc2
      refine J.aload_n dX11_copyTexts_14 rfl rfl ?_
      refine J.iload_n dX11_copyTexts_15 rfl rfl ?_
      refine J.aload_n dX11_copyTexts_16 rfl rfl ?_
      refine J.iload_n dX11_copyTexts_17 rfl rfl ?_
      obtain ⟨hb3, hW⟩ := hW
      refine J.aald (v := rlf (eB E) (h.2.1 a0 x2.toNatClampNeg)) dX11_copyTexts_18 hl0 hk0 (by decide) hb3 rfl ?_
      rcases ho4 : h.2.1 a0 x2.toNatClampNeg with _ | t5
      · have hW := hW.1 ho4
        rw [rlf_none]
        obtain ⟨hb6, hW⟩ := hW
        refine J.aastTN dX11_copyTexts_19 hl1 hk1 hb6 ?_
        obtain ⟨hs7, hW⟩ := hW
        refine J.iinc (v := x2 + 1) (vs' := [some (.ref (eB E + a0)), some (.ref (eB E + a1)), some (.int (x2 + 1))]) dX11_copyTexts_20 rfl (by rfl) (by decide) rfl ?_
        refine J.goto 2 dX11_copyTexts_23 (by decide) ?_
        exact hW
      · have hW := hW.2 t5 ho4
        rw [rlf_some]
        obtain ⟨hb8, hW⟩ := hW
        obtain ⟨nl10, nt11, ht9, hW⟩ := hW
        refine J.aastT dX11_copyTexts_19 hl1 hk1 hb8 ht9.l0 ht9.k0 ?_
        obtain ⟨hs12, hW⟩ := hW
        have ht13 := LT_uR (a := a1) (i := x2.toNatClampNeg) (r := (some t5)) ht9 (LT_ne ht9 hk1)
        refine J.iinc (v := x2 + 1) (vs' := [some (.ref (eB E + a0)), some (.ref (eB E + a1)), some (.int (x2 + 1))]) dX11_copyTexts_20 rfl (by rfl) (by decide) rfl ?_
        refine J.goto 2 dX11_copyTexts_23 (by decide) ?_
        exact hW
set_option maxRecDepth 100000 in
set_option maxHeartbeats 4000000 in
theorem w_X1_has {E : Envt} {d : Nat} {Q : Pst} {h : mS} {I : mI} {L : mL} (hs : SL h) (x1 : Int32) 
    (hW : Q (some (.int (bI (¬ (x1 < 0) ∧ (¬ ((I 2 0) ≤ x1)))))) h I L) :
    CT E mX1_has d 0 0 [.ref (eB E + 2), .int x1] h I L Q := by
  refine CT.of (by decide) [some (.ref (eB E + 2)), some (.int x1)] rfl (Nat.le_of_ble_eq_true rfl) ?_
  refine J.iload_n dX1_has_0 rfl rfl ?_
  have hj : J E mX1_has d Q 0 0 17 [some (.ref (eB E + 2)), some (.int x1)] [.int (bI (¬ (x1 < 0) ∧ (¬ ((I 2 0) ≤ x1))))] h I L := by
    exact J.reti dX1_has_17 rfl (bz_nar (bI_bz _)) hW
  refine J.if_lt 16 dX1_has_1 (by decide) (fun hc1 => ?_) (fun hc1 => ?_)
  · refine J.iconst (v := 0) dX1_has_16 (by decide) ?_
    rw [show bI (¬ (x1 < 0) ∧ (¬ ((I 2 0) ≤ x1))) = 0 from bI_f (by simp only [eq_true hc1, and_true, true_and, and_false, false_and, or_true, true_or, or_false, false_or, not_true_eq_false, not_false_eq_true])] at hj
    exact hj
  · refine J.iload_n dX1_has_4 rfl rfl ?_
    refine J.aload_n dX1_has_5 rfl rfl ?_
    refine J.getI (x := I 2 0) fl_X1_24 rfl dX1_has_6 (lt2 hs) (kk2 hs) rfl ?_
    refine J.ic_ge 16 dX1_has_9 (by decide) (fun hc2 => ?_) (fun hc2 => ?_)
    · refine J.iconst (v := 0) dX1_has_16 (by decide) ?_
      rw [show bI (¬ (x1 < 0) ∧ (¬ ((I 2 0) ≤ x1))) = 0 from bI_f (by simp only [eq_false hc1, eq_true hc2, and_true, true_and, and_false, false_and, or_true, true_or, or_false, false_or, not_true_eq_false, not_false_eq_true])] at hj
      exact hj
    · refine J.iconst (v := 1) dX1_has_12 (by decide) ?_
      refine J.goto 17 dX1_has_13 (by decide) ?_
      rw [show bI (¬ (x1 < 0) ∧ (¬ ((I 2 0) ≤ x1))) = 1 from bI_t (by simp only [eq_false hc1, eq_false hc2, and_true, true_and, and_false, false_and, or_true, true_or, or_false, false_or, not_true_eq_false, not_false_eq_true])] at hj
      exact hj
set_option maxRecDepth 100000 in
set_option maxHeartbeats 4000000 in
theorem w_X1_add {E : Envt} {d : Nat} {Q : Pst} {h : mS} {I : mI} {L : mL} (hs : SL h) (x1 : Int32) (x2 : Int32) (x3 : Int32) 
    (hW : ((((I 2 0) < 8) → (vp_in (I 2 0) 8 ∧ Q (some (.int (((I 2 0) + 1) - 1))) h (uI (uI (uI (uI (uI I 3 ((I 2 0).toNatClampNeg) x1) 4 ((I 2 0).toNatClampNeg) x2) 5 ((I 2 0).toNatClampNeg) x3) 6 ((I 2 0).toNatClampNeg) 0) 2 0 ((I 2 0) + 1)) L)) ∧ (¬ ((I 2 0) < 8) → Q (some (.int (-1))) h I L))) :
    CT E mX1_add d 0 0 [.ref (eB E + 2), .int x1, .int x2, .int x3] h I L Q := by
  refine CT.of (by decide) [some (.ref (eB E + 2)), some (.int x1), some (.int x2), some (.int x3)] rfl (Nat.le_of_ble_eq_true rfl) ?_
  refine J.aload_n dX1_add_0 rfl rfl ?_
  refine J.getI (x := I 2 0) fl_X1_24 rfl dX1_add_1 (lt2 hs) (kk2 hs) rfl ?_
  refine J.bipush (v := 8) dX1_add_4 (by decide) ?_
  refine J.ic_lt 11 dX1_add_6 (by decide) (fun hc1 => ?_) (fun hc1 => ?_)
  · have hW := hW.1 hc1
    refine J.aload_n dX1_add_11 rfl rfl ?_
    refine J.getR (r := 3) fl_X1_9 rfl dX1_add_12 (lt2 hs) (kk2 hs) (rr2_1 hs) ?_
    refine J.aload_n dX1_add_15 rfl rfl ?_
    refine J.getI (x := I 2 0) fl_X1_24 rfl dX1_add_16 (lt2 hs) (kk2 hs) rfl ?_
    refine J.iload_n dX1_add_19 rfl rfl ?_
    obtain ⟨hb2, hW⟩ := hW
    refine J.iast dX1_add_20 (lt3 hs) (kk3 hs) hb2 ?_
    refine J.aload_n dX1_add_21 rfl rfl ?_
    refine J.getR (r := 4) fl_X1_15 rfl dX1_add_22 (lt2 hs) (kk2 hs) (rr2_2 hs) ?_
    refine J.aload_n dX1_add_25 rfl rfl ?_
    refine J.getI (x := I 2 0) fl_X1_24 rfl dX1_add_26 (lt2 hs) (kk2 hs) rfl ?_
    refine J.iload_n dX1_add_29 rfl rfl ?_
    refine J.iast dX1_add_30 (lt4 hs) (kk4 hs) hb2 ?_
    refine J.aload_n dX1_add_31 rfl rfl ?_
    refine J.getR (r := 5) fl_X1_18 rfl dX1_add_32 (lt2 hs) (kk2 hs) (rr2_3 hs) ?_
    refine J.aload_n dX1_add_35 rfl rfl ?_
    refine J.getI (x := I 2 0) fl_X1_24 rfl dX1_add_36 (lt2 hs) (kk2 hs) rfl ?_
    refine J.iload_n dX1_add_39 rfl rfl ?_
    refine J.iast dX1_add_40 (lt5 hs) (kk5 hs) hb2 ?_
    refine J.aload_n dX1_add_41 rfl rfl ?_
    refine J.getR (r := 6) fl_X1_21 rfl dX1_add_42 (lt2 hs) (kk2 hs) (rr2_4 hs) ?_
    refine J.aload_n dX1_add_45 rfl rfl ?_
    refine J.getI (x := I 2 0) fl_X1_24 rfl dX1_add_46 (lt2 hs) (kk2 hs) rfl ?_
    refine J.iconst (v := 0) dX1_add_49 (by decide) ?_
    refine J.iast dX1_add_50 (lt6 hs) (kk6 hs) hb2 ?_
    refine J.aload_n dX1_add_51 rfl rfl ?_
    refine J.dup dX1_add_52 rfl ?_
    refine J.getI (x := I 2 0) fl_X1_24 rfl dX1_add_53 (lt2 hs) (kk2 hs) rfl ?_
    refine J.iconst (v := 1) dX1_add_56 (by decide) ?_
    refine J.iadd dX1_add_57 ?_
    refine J.putI fw_X1_24 rfl dX1_add_58 (lt2 hs) (kk2 hs) ?_
    refine J.aload_n dX1_add_61 rfl rfl ?_
    refine J.getI (x := (I 2 0) + 1) fl_X1_24 rfl dX1_add_62 (lt2 hs) (kk2 hs) (by simp [uI]) ?_
    refine J.iconst (v := 1) dX1_add_65 (by decide) ?_
    refine J.isub dX1_add_66 ?_
    exact J.reti dX1_add_67 rfl rfl hW
  · have hW := hW.2 hc1
    refine J.iconst (v := (-1)) dX1_add_9 (by decide) ?_
    exact J.reti dX1_add_10 rfl rfl hW
set_option maxRecDepth 100000 in
set_option maxHeartbeats 4000000 in
theorem w_X1_atFeud {E : Envt} {d : Nat} {Q : Pst} {h : mS} {I : mI} {L : mL} (hs : SL h) (x1 : Int32) (x2 : Int32) 
    (hW : (vp_in x1 8 ∧ Q (some (.int (bI ((((I 6 x1.toNatClampNeg) >>> (x2 &&& 31)) &&& 1) = 1)))) h I L)) :
    CT E mX1_atFeud d 0 0 [.ref (eB E + 2), .int x1, .int x2] h I L Q := by
  refine CT.of (by decide) [some (.ref (eB E + 2)), some (.int x1), some (.int x2)] rfl (Nat.le_of_ble_eq_true rfl) ?_
  refine J.aload_n dX1_atFeud_0 rfl rfl ?_
  refine J.getR (r := 6) fl_X1_21 rfl dX1_atFeud_1 (lt2 hs) (kk2 hs) (rr2_4 hs) ?_
  refine J.iload_n dX1_atFeud_4 rfl rfl ?_
  obtain ⟨hb1, hW⟩ := hW
  refine J.iald (x := I 6 x1.toNatClampNeg) dX1_atFeud_5 (lt6 hs) (kk6 hs) hb1 rfl ?_
  refine J.iload_n dX1_atFeud_6 rfl rfl ?_
  refine J.ishr dX1_atFeud_7 ?_
  refine J.iconst (v := 1) dX1_atFeud_8 (by decide) ?_
  refine J.iand dX1_atFeud_9 ?_
  refine J.iconst (v := 1) dX1_atFeud_10 (by decide) ?_
  have hj : J E mX1_atFeud d Q 0 0 19 [some (.ref (eB E + 2)), some (.int x1), some (.int x2)] [.int (bI ((((I 6 x1.toNatClampNeg) >>> (x2 &&& 31)) &&& 1) = 1))] h I L := by
    exact J.reti dX1_atFeud_19 rfl (bz_nar (bI_bz _)) hW
  refine J.ic_ne 18 dX1_atFeud_11 (by decide) (fun hc2 => ?_) (fun hc2 => ?_)
  · refine J.iconst (v := 0) dX1_atFeud_18 (by decide) ?_
    rw [show bI ((((I 6 x1.toNatClampNeg) >>> (x2 &&& 31)) &&& 1) = 1) = 0 from bI_f (by simp only [eq_false hc2, and_true, true_and, and_false, false_and, or_true, true_or, or_false, false_or, not_true_eq_false, not_false_eq_true])] at hj
    exact hj
  · refine J.iconst (v := 1) dX1_atFeud_14 (by decide) ?_
    refine J.goto 19 dX1_atFeud_15 (by decide) ?_
    rw [show bI ((((I 6 x1.toNatClampNeg) >>> (x2 &&& 31)) &&& 1) = 1) = 1 from bI_t (by simp only [eq_true hc2, and_true, true_and, and_false, false_and, or_true, true_or, or_false, false_or, not_true_eq_false, not_false_eq_true])] at hj
    exact hj
set_option maxRecDepth 100000 in
set_option maxHeartbeats 4000000 in
theorem w_X1_setFeud {E : Envt} {d : Nat} {Q : Pst} {h : mS} {I : mI} {L : mL} (hs : SL h) (x1 : Int32) (x2 : Int32) (x3 : Int32) 
    (hW : (((x3 = 0) → (vp_in x1 8 ∧ (vp_in x2 8 ∧ Q none h (uI (uI I 6 x1.toNatClampNeg ((I 6 x1.toNatClampNeg) &&& (((1 : Int32) <<< (x2 &&& 31)) ^^^ (-1)))) 6 x2.toNatClampNeg (((uI I 6 x1.toNatClampNeg ((I 6 x1.toNatClampNeg) &&& (((1 : Int32) <<< (x2 &&& 31)) ^^^ (-1)))) 6 x2.toNatClampNeg) &&& (((1 : Int32) <<< (x1 &&& 31)) ^^^ (-1)))) L))) ∧ (¬ (x3 = 0) → (vp_in x1 8 ∧ (vp_in x2 8 ∧ Q none h (uI (uI I 6 x1.toNatClampNeg ((I 6 x1.toNatClampNeg) ||| ((1 : Int32) <<< (x2 &&& 31)))) 6 x2.toNatClampNeg (((uI I 6 x1.toNatClampNeg ((I 6 x1.toNatClampNeg) ||| ((1 : Int32) <<< (x2 &&& 31)))) 6 x2.toNatClampNeg) ||| ((1 : Int32) <<< (x1 &&& 31)))) L))))) :
    CT E mX1_setFeud d 0 0 [.ref (eB E + 2), .int x1, .int x2, .int x3] h I L Q := by
  refine CT.of (by decide) [some (.ref (eB E + 2)), some (.int x1), some (.int x2), some (.int x3)] rfl (Nat.le_of_ble_eq_true rfl) ?_
  refine J.iload_n dX1_setFeud_0 rfl rfl ?_
  refine J.if_eq 31 dX1_setFeud_1 (by decide) (fun hc1 => ?_) (fun hc1 => ?_)
  · have hW := hW.1 hc1
    refine J.aload_n dX1_setFeud_31 rfl rfl ?_
    refine J.getR (r := 6) fl_X1_21 rfl dX1_setFeud_32 (lt2 hs) (kk2 hs) (rr2_4 hs) ?_
    refine J.iload_n dX1_setFeud_35 rfl rfl ?_
    refine J.dup2 dX1_setFeud_36 rfl rfl ?_
    obtain ⟨hb2, hW⟩ := hW
    refine J.iald (x := I 6 x1.toNatClampNeg) dX1_setFeud_37 (lt6 hs) (kk6 hs) hb2 rfl ?_
    refine J.iconst (v := 1) dX1_setFeud_38 (by decide) ?_
    refine J.iload_n dX1_setFeud_39 rfl rfl ?_
    refine J.ishl dX1_setFeud_40 ?_
    refine J.iconst (v := (-1)) dX1_setFeud_41 (by decide) ?_
    refine J.ixor dX1_setFeud_42 ?_
    refine J.iand dX1_setFeud_43 ?_
    refine J.iast dX1_setFeud_44 (lt6 hs) (kk6 hs) hb2 ?_
    refine J.aload_n dX1_setFeud_45 rfl rfl ?_
    refine J.getR (r := 6) fl_X1_21 rfl dX1_setFeud_46 (lt2 hs) (kk2 hs) (rr2_4 hs) ?_
    refine J.iload_n dX1_setFeud_49 rfl rfl ?_
    refine J.dup2 dX1_setFeud_50 rfl rfl ?_
    obtain ⟨hb3, hW⟩ := hW
    refine J.iald (x := (uI I 6 x1.toNatClampNeg ((I 6 x1.toNatClampNeg) &&& (((1 : Int32) <<< (x2 &&& 31)) ^^^ (-1)))) 6 x2.toNatClampNeg) dX1_setFeud_51 (lt6 hs) (kk6 hs) hb3 rfl ?_
    refine J.iconst (v := 1) dX1_setFeud_52 (by decide) ?_
    refine J.iload_n dX1_setFeud_53 rfl rfl ?_
    refine J.ishl dX1_setFeud_54 ?_
    refine J.iconst (v := (-1)) dX1_setFeud_55 (by decide) ?_
    refine J.ixor dX1_setFeud_56 ?_
    refine J.iand dX1_setFeud_57 ?_
    refine J.iast dX1_setFeud_58 (lt6 hs) (kk6 hs) hb3 ?_
    exact J.retv dX1_setFeud_59 rfl hW
  · have hW := hW.2 hc1
    refine J.aload_n dX1_setFeud_4 rfl rfl ?_
    refine J.getR (r := 6) fl_X1_21 rfl dX1_setFeud_5 (lt2 hs) (kk2 hs) (rr2_4 hs) ?_
    refine J.iload_n dX1_setFeud_8 rfl rfl ?_
    refine J.dup2 dX1_setFeud_9 rfl rfl ?_
    obtain ⟨hb4, hW⟩ := hW
    refine J.iald (x := I 6 x1.toNatClampNeg) dX1_setFeud_10 (lt6 hs) (kk6 hs) hb4 rfl ?_
    refine J.iconst (v := 1) dX1_setFeud_11 (by decide) ?_
    refine J.iload_n dX1_setFeud_12 rfl rfl ?_
    refine J.ishl dX1_setFeud_13 ?_
    refine J.ior dX1_setFeud_14 ?_
    refine J.iast dX1_setFeud_15 (lt6 hs) (kk6 hs) hb4 ?_
    refine J.aload_n dX1_setFeud_16 rfl rfl ?_
    refine J.getR (r := 6) fl_X1_21 rfl dX1_setFeud_17 (lt2 hs) (kk2 hs) (rr2_4 hs) ?_
    refine J.iload_n dX1_setFeud_20 rfl rfl ?_
    refine J.dup2 dX1_setFeud_21 rfl rfl ?_
    obtain ⟨hb5, hW⟩ := hW
    refine J.iald (x := (uI I 6 x1.toNatClampNeg ((I 6 x1.toNatClampNeg) ||| ((1 : Int32) <<< (x2 &&& 31)))) 6 x2.toNatClampNeg) dX1_setFeud_22 (lt6 hs) (kk6 hs) hb5 rfl ?_
    refine J.iconst (v := 1) dX1_setFeud_23 (by decide) ?_
    refine J.iload_n dX1_setFeud_24 rfl rfl ?_
    refine J.ishl dX1_setFeud_25 ?_
    refine J.ior dX1_setFeud_26 ?_
    refine J.iast dX1_setFeud_27 (lt6 hs) (kk6 hs) hb5 ?_
    refine J.goto 59 dX1_setFeud_28 (by decide) ?_
    exact J.retv dX1_setFeud_59 rfl hW
set_option maxRecDepth 100000 in
set_option maxHeartbeats 4000000 in
theorem w_X1_pay {E : Envt} {d : Nat} {Q : Pst} {h : mS} {I : mI} {L : mL} (hs : SL h) (x1 : Int32) (x2 : Int32) (x3 : Int32) 
    (hW : (vp_in x1 8 ∧ (((x3 ≤ (I 5 x1.toNatClampNeg)) → (vp_in x2 8 ∧ Q (some (.int 1)) h (uI (uI I 5 x1.toNatClampNeg ((I 5 x1.toNatClampNeg) - x3)) 5 x2.toNatClampNeg (((uI I 5 x1.toNatClampNeg ((I 5 x1.toNatClampNeg) - x3)) 5 x2.toNatClampNeg) + x3)) L)) ∧ (¬ (x3 ≤ (I 5 x1.toNatClampNeg)) → Q (some (.int 0)) h I L)))) :
    CT E mX1_pay d 0 0 [.ref (eB E + 2), .int x1, .int x2, .int x3] h I L Q := by
  refine CT.of (by decide) [some (.ref (eB E + 2)), some (.int x1), some (.int x2), some (.int x3)] rfl (Nat.le_of_ble_eq_true rfl) ?_
  refine J.aload_n dX1_pay_0 rfl rfl ?_
  refine J.getR (r := 5) fl_X1_18 rfl dX1_pay_1 (lt2 hs) (kk2 hs) (rr2_3 hs) ?_
  refine J.iload_n dX1_pay_4 rfl rfl ?_
  obtain ⟨hb1, hW⟩ := hW
  refine J.iald (x := I 5 x1.toNatClampNeg) dX1_pay_5 (lt5 hs) (kk5 hs) hb1 rfl ?_
  refine J.iload_n dX1_pay_6 rfl rfl ?_
  refine J.ic_ge 12 dX1_pay_7 (by decide) (fun hc2 => ?_) (fun hc2 => ?_)
  · have hW := hW.1 hc2
    refine J.aload_n dX1_pay_12 rfl rfl ?_
    refine J.getR (r := 5) fl_X1_18 rfl dX1_pay_13 (lt2 hs) (kk2 hs) (rr2_3 hs) ?_
    refine J.iload_n dX1_pay_16 rfl rfl ?_
    refine J.dup2 dX1_pay_17 rfl rfl ?_
    refine J.iald (x := I 5 x1.toNatClampNeg) dX1_pay_18 (lt5 hs) (kk5 hs) hb1 rfl ?_
    refine J.iload_n dX1_pay_19 rfl rfl ?_
    refine J.isub dX1_pay_20 ?_
    refine J.iast dX1_pay_21 (lt5 hs) (kk5 hs) hb1 ?_
    refine J.aload_n dX1_pay_22 rfl rfl ?_
    refine J.getR (r := 5) fl_X1_18 rfl dX1_pay_23 (lt2 hs) (kk2 hs) (rr2_3 hs) ?_
    refine J.iload_n dX1_pay_26 rfl rfl ?_
    refine J.dup2 dX1_pay_27 rfl rfl ?_
    obtain ⟨hb3, hW⟩ := hW
    refine J.iald (x := (uI I 5 x1.toNatClampNeg ((I 5 x1.toNatClampNeg) - x3)) 5 x2.toNatClampNeg) dX1_pay_28 (lt5 hs) (kk5 hs) hb3 rfl ?_
    refine J.iload_n dX1_pay_29 rfl rfl ?_
    refine J.iadd dX1_pay_30 ?_
    refine J.iast dX1_pay_31 (lt5 hs) (kk5 hs) hb3 ?_
    refine J.iconst (v := 1) dX1_pay_32 (by decide) ?_
    exact J.reti dX1_pay_33 rfl (bz_nar (Or.inr rfl)) hW
  · have hW := hW.2 hc2
    refine J.iconst (v := 0) dX1_pay_10 (by decide) ?_
    exact J.reti dX1_pay_11 rfl (bz_nar (Or.inl rfl)) hW
set_option maxRecDepth 100000 in
set_option maxHeartbeats 4000000 in
theorem w_J6_bitCount_0f7a4 {E : Envt} {d : Nat} {Q : Pst} {h : mS} {I : mI} {L : mL} (hs : SL h) (x0 : Int32) 
    (hW : (∀ y1 : Int32, y1 = x0 - (((x0.toUInt32 >>> ((1 : Int32).toUInt32 &&& Int32.toUInt32 31)).toInt32) &&& 1431655765) → (∀ y2 : Int32, y2 = (y1 &&& 858993459) + (((y1.toUInt32 >>> ((2 : Int32).toUInt32 &&& Int32.toUInt32 31)).toInt32) &&& 858993459) → (∀ y3 : Int32, y3 = (y2 + ((y2.toUInt32 >>> ((4 : Int32).toUInt32 &&& Int32.toUInt32 31)).toInt32)) &&& 252645135 → (∀ y4 : Int32, y4 = y3 + ((y3.toUInt32 >>> ((8 : Int32).toUInt32 &&& Int32.toUInt32 31)).toInt32) → (∀ y5 : Int32, y5 = y4 + ((y4.toUInt32 >>> ((16 : Int32).toUInt32 &&& Int32.toUInt32 31)).toInt32) → Q (some (.int (y5 &&& 63))) h I L)))))) :
    CT E mJ6_bitCount_0f7a4 d 0 0 [.int x0] h I L Q := by
  refine CT.ofF (by decide +kernel) [some (.int x0)] rfl (Nat.le_of_ble_eq_true rfl) ?_
  refine J.iload_n dJ6_bitCount_0f7a4_0 rfl rfl ?_
  refine J.iload_n dJ6_bitCount_0f7a4_1 rfl rfl ?_
  refine J.iconst (v := 1) dJ6_bitCount_0f7a4_2 (by decide) ?_
  refine J.iushr dJ6_bitCount_0f7a4_3 ?_
  refine J.ldcw (v := 1431655765) dJ6_bitCount_0f7a4_4 ck_J6_265 ?_
  refine J.iand dJ6_bitCount_0f7a4_7 ?_
  refine J.isub dJ6_bitCount_0f7a4_8 ?_
  refine J.topi (fun y1 hyy1 => ?_)
  have hW := hW y1 hyy1
  refine J.istore_n (vs' := [some (.int y1)]) dJ6_bitCount_0f7a4_9 rfl (by decide) rfl ?_
  refine J.iload_n dJ6_bitCount_0f7a4_10 rfl rfl ?_
  refine J.ldcw (v := 858993459) dJ6_bitCount_0f7a4_11 ck_J6_266 ?_
  refine J.iand dJ6_bitCount_0f7a4_14 ?_
  refine J.iload_n dJ6_bitCount_0f7a4_15 rfl rfl ?_
  refine J.iconst (v := 2) dJ6_bitCount_0f7a4_16 (by decide) ?_
  refine J.iushr dJ6_bitCount_0f7a4_17 ?_
  refine J.ldcw (v := 858993459) dJ6_bitCount_0f7a4_18 ck_J6_266 ?_
  refine J.iand dJ6_bitCount_0f7a4_21 ?_
  refine J.iadd dJ6_bitCount_0f7a4_22 ?_
  refine J.topi (fun y2 hyy2 => ?_)
  have hW := hW y2 hyy2
  refine J.istore_n (vs' := [some (.int y2)]) dJ6_bitCount_0f7a4_23 rfl (by decide) rfl ?_
  refine J.iload_n dJ6_bitCount_0f7a4_24 rfl rfl ?_
  refine J.iload_n dJ6_bitCount_0f7a4_25 rfl rfl ?_
  refine J.iconst (v := 4) dJ6_bitCount_0f7a4_26 (by decide) ?_
  refine J.iushr dJ6_bitCount_0f7a4_27 ?_
  refine J.iadd dJ6_bitCount_0f7a4_28 ?_
  refine J.ldcw (v := 252645135) dJ6_bitCount_0f7a4_29 ck_J6_267 ?_
  refine J.iand dJ6_bitCount_0f7a4_32 ?_
  refine J.topi (fun y3 hyy3 => ?_)
  have hW := hW y3 hyy3
  refine J.istore_n (vs' := [some (.int y3)]) dJ6_bitCount_0f7a4_33 rfl (by decide) rfl ?_
  refine J.iload_n dJ6_bitCount_0f7a4_34 rfl rfl ?_
  refine J.iload_n dJ6_bitCount_0f7a4_35 rfl rfl ?_
  refine J.bipush (v := 8) dJ6_bitCount_0f7a4_36 (by decide) ?_
  refine J.iushr dJ6_bitCount_0f7a4_38 ?_
  refine J.iadd dJ6_bitCount_0f7a4_39 ?_
  refine J.topi (fun y4 hyy4 => ?_)
  have hW := hW y4 hyy4
  refine J.istore_n (vs' := [some (.int y4)]) dJ6_bitCount_0f7a4_40 rfl (by decide) rfl ?_
  refine J.iload_n dJ6_bitCount_0f7a4_41 rfl rfl ?_
  refine J.iload_n dJ6_bitCount_0f7a4_42 rfl rfl ?_
  refine J.bipush (v := 16) dJ6_bitCount_0f7a4_43 (by decide) ?_
  refine J.iushr dJ6_bitCount_0f7a4_45 ?_
  refine J.iadd dJ6_bitCount_0f7a4_46 ?_
  refine J.topi (fun y5 hyy5 => ?_)
  have hW := hW y5 hyy5
  refine J.istore_n (vs' := [some (.int y5)]) dJ6_bitCount_0f7a4_47 rfl (by decide) rfl ?_
  refine J.iload_n dJ6_bitCount_0f7a4_48 rfl rfl ?_
  refine J.bipush (v := 63) dJ6_bitCount_0f7a4_49 (by decide) ?_
  refine J.iand dJ6_bitCount_0f7a4_51 ?_
  exact J.reti dJ6_bitCount_0f7a4_52 rfl rfl hW
set_option maxRecDepth 100000 in
set_option maxHeartbeats 4000000 in
theorem w_X1_allFeuds {E : Envt} {d : Nat} {Q : Pst} {h : mS} {I : mI} {L : mL} (hs : SL h)  
    (hW : J E mX1_allFeuds (d + 1) Q 0 0 4 [some (.ref (eB E + 2)), some (.int 0), some (.int 0)] [] h I L) :
    CT E mX1_allFeuds (d + 1) 0 0 [.ref (eB E + 2)] h I L Q := by
  refine CT.of (by decide) [some (.ref (eB E + 2)), none, none] rfl (Nat.le_of_ble_eq_true rfl) ?_
  refine J.iconst (v := 0) dX1_allFeuds_0 (by decide) ?_
  refine J.istore_n (vs' := [some (.ref (eB E + 2)), some (.int 0), none]) dX1_allFeuds_1 rfl (by decide) rfl ?_
  refine J.iconst (v := 0) dX1_allFeuds_2 (by decide) ?_
  refine J.istore_n (vs' := [some (.ref (eB E + 2)), some (.int 0), some (.int 0)]) dX1_allFeuds_3 rfl (by decide) rfl ?_
  exact hW
set_option maxRecDepth 100000 in
set_option maxHeartbeats 4000000 in
theorem w_X1_allFeuds_4 {E : Envt} {d : Nat} {Q : Pst} {h : mS} {I : mI} {L : mL} (hs : SL h)    (x1 : Int32) (x2 : Int32)
    (hW : ((((I 2 0) ≤ x2) → Q (some (.int (x1 / 2))) h I L) ∧ (¬ ((I 2 0) ≤ x2) → (vp_in x2 8 ∧ (CT E mJ6_bitCount_0f7a4 d 0 0 [.int (I 6 x2.toNatClampNeg)] h I L (qi h L fun r4 I3 => J E mX1_allFeuds (d + 1) Q 0 0 4 [some (.ref (eB E + 2)), some (.int (x1 + r4)), some (.int (x2 + 1))] [] h I3 L)))))) :
    J E mX1_allFeuds (d + 1) Q 0 0 4 [some (.ref (eB E + 2)), some (.int x1), some (.int x2)] [] h I L := by
  refine J.iload_n dX1_allFeuds_4 rfl rfl ?_
  refine J.aload_n dX1_allFeuds_5 rfl rfl ?_
  refine J.getI (x := I 2 0) fl_X1_24 rfl dX1_allFeuds_6 (lt2 hs) (kk2 hs) rfl ?_
  refine J.ic_ge 30 dX1_allFeuds_9 (by decide) (fun hc1 => ?_) (fun hc1 => ?_)
  · have hW := hW.1 hc1
    refine J.iload_n dX1_allFeuds_30 rfl rfl ?_
    refine J.iconst (v := 2) dX1_allFeuds_31 (by decide) ?_
    refine J.idiv dX1_allFeuds_32 (by decide) ?_
    exact J.reti dX1_allFeuds_33 rfl rfl hW
  · have hW := hW.2 hc1
    refine J.iload_n dX1_allFeuds_12 rfl rfl ?_
    refine J.aload_n dX1_allFeuds_13 rfl rfl ?_
    refine J.getR (r := 6) fl_X1_21 rfl dX1_allFeuds_14 (lt2 hs) (kk2 hs) (rr2_4 hs) ?_
    refine J.iload_n dX1_allFeuds_17 rfl rfl ?_
    obtain ⟨hb2, hW⟩ := hW
    refine J.iald (x := I 6 x2.toNatClampNeg) dX1_allFeuds_18 (lt6 hs) (kk6 hs) hb2 rfl ?_
    refine J.callS (M' := mJ6_bitCount_0f7a4) (index := 28) (bc := 0) (bs := 0) (bc' := 0) (bs' := 0) (st := [.int x1]) [.int (I 6 x2.toNatClampNeg)] ml_X1_28 cv_J6_bitCount_0f7a4 dX1_allFeuds_19 rfl rfl (Nat.le_of_ble_eq_true rfl) (kqi hW (fun r4 I3 hW => ?_))
    refine J.iadd dX1_allFeuds_22 ?_
    refine J.istore_n (vs' := [some (.ref (eB E + 2)), some (.int (x1 + r4)), some (.int x2)]) dX1_allFeuds_23 rfl (by decide) rfl ?_
    refine J.iinc (v := x2 + 1) (vs' := [some (.ref (eB E + 2)), some (.int (x1 + r4)), some (.int (x2 + 1))]) dX1_allFeuds_24 rfl (by rfl) (by decide) rfl ?_
    refine J.goto 4 dX1_allFeuds_27 (by decide) ?_
    exact hW
set_option maxRecDepth 100000 in
set_option maxHeartbeats 4000000 in
theorem w_X1_allCoins {E : Envt} {d : Nat} {Q : Pst} {h : mS} {I : mI} {L : mL} (hs : SL h)  
    (hW : J E mX1_allCoins d Q 0 0 4 [some (.ref (eB E + 2)), some (.int 0), some (.int 0)] [] h I L) :
    CT E mX1_allCoins d 0 0 [.ref (eB E + 2)] h I L Q := by
  refine CT.of (by decide) [some (.ref (eB E + 2)), none, none] rfl (Nat.le_of_ble_eq_true rfl) ?_
  refine J.iconst (v := 0) dX1_allCoins_0 (by decide) ?_
  refine J.istore_n (vs' := [some (.ref (eB E + 2)), some (.int 0), none]) dX1_allCoins_1 rfl (by decide) rfl ?_
  refine J.iconst (v := 0) dX1_allCoins_2 (by decide) ?_
  refine J.istore_n (vs' := [some (.ref (eB E + 2)), some (.int 0), some (.int 0)]) dX1_allCoins_3 rfl (by decide) rfl ?_
  exact hW
set_option maxRecDepth 100000 in
set_option maxHeartbeats 4000000 in
theorem w_X1_allCoins_4 {E : Envt} {d : Nat} {Q : Pst} {h : mS} {I : mI} {L : mL} (hs : SL h)    (x1 : Int32) (x2 : Int32)
    (hW : ((((I 2 0) ≤ x2) → Q (some (.int x1)) h I L) ∧ (¬ ((I 2 0) ≤ x2) → (vp_in x2 8 ∧ (∀ y3 : Int32, y3 = x1 + (I 5 x2.toNatClampNeg) → J E mX1_allCoins d Q 0 0 4 [some (.ref (eB E + 2)), some (.int y3), some (.int (x2 + 1))] [] h I L))))) :
    J E mX1_allCoins d Q 0 0 4 [some (.ref (eB E + 2)), some (.int x1), some (.int x2)] [] h I L := by
  refine J.iload_n dX1_allCoins_4 rfl rfl ?_
  refine J.aload_n dX1_allCoins_5 rfl rfl ?_
  refine J.getI (x := I 2 0) fl_X1_24 rfl dX1_allCoins_6 (lt2 hs) (kk2 hs) rfl ?_
  refine J.ic_ge 27 dX1_allCoins_9 (by decide) (fun hc1 => ?_) (fun hc1 => ?_)
  · have hW := hW.1 hc1
    refine J.iload_n dX1_allCoins_27 rfl rfl ?_
    exact J.reti dX1_allCoins_28 rfl rfl hW
  · have hW := hW.2 hc1
    refine J.iload_n dX1_allCoins_12 rfl rfl ?_
    refine J.aload_n dX1_allCoins_13 rfl rfl ?_
    refine J.getR (r := 5) fl_X1_18 rfl dX1_allCoins_14 (lt2 hs) (kk2 hs) (rr2_3 hs) ?_
    refine J.iload_n dX1_allCoins_17 rfl rfl ?_
    obtain ⟨hb2, hW⟩ := hW
    refine J.iald (x := I 5 x2.toNatClampNeg) dX1_allCoins_18 (lt5 hs) (kk5 hs) hb2 rfl ?_
    refine J.iadd dX1_allCoins_19 ?_
    refine J.topi (fun y3 hyy3 => ?_)
    have hW := hW y3 hyy3
    refine J.istore_n (vs' := [some (.ref (eB E + 2)), some (.int y3), some (.int x2)]) dX1_allCoins_20 rfl (by decide) rfl ?_
    refine J.iinc (v := x2 + 1) (vs' := [some (.ref (eB E + 2)), some (.int y3), some (.int (x2 + 1))]) dX1_allCoins_21 rfl (by rfl) (by decide) rfl ?_
    refine J.goto 4 dX1_allCoins_24 (by decide) ?_
    exact hW
set_option maxRecDepth 100000 in
set_option maxHeartbeats 4000000 in
theorem w_J9_abs_0f7a4 {E : Envt} {d : Nat} {Q : Pst} {h : mS} {I : mI} {L : mL} (hs : SL h) (x0 : Int32) 
    (hW : Q (some (.int (if 0 ≤ x0 then x0 else -x0 : Int32))) h I L) :
    CT E mJ9_abs_0f7a4 d 0 0 [.int x0] h I L Q := by
  refine CT.ofF (by decide +kernel) [some (.int x0)] rfl (Nat.le_of_ble_eq_true rfl) ?_
  refine J.iload_n dJ9_abs_0f7a4_0 rfl rfl ?_
  have hj : J E mJ9_abs_0f7a4 d Q 0 0 10 [some (.int x0)] [.int (if 0 ≤ x0 then x0 else -x0 : Int32)] h I L := by
    exact J.reti dJ9_abs_0f7a4_10 rfl rfl hW
  refine J.if_ge 9 dJ9_abs_0f7a4_1 (by decide) (fun hc1 => ?_) (fun hc1 => ?_)
  · refine J.iload_n dJ9_abs_0f7a4_9 rfl rfl ?_
    rw [show ((if 0 ≤ x0 then x0 else -x0 : Int32) = x0) from by simp only [eq_true hc1, if_true, if_false, bI_true, bI_false, and_true, true_and, and_false, false_and, or_true, true_or, or_false, false_or, not_true_eq_false, not_false_eq_true]] at hj
    exact hj
  · refine J.iload_n dJ9_abs_0f7a4_4 rfl rfl ?_
    refine J.ineg dJ9_abs_0f7a4_5 ?_
    refine J.goto 10 dJ9_abs_0f7a4_6 (by decide) ?_
    rw [show ((if 0 ≤ x0 then x0 else -x0 : Int32) = -x0) from by simp only [eq_false hc1, if_true, if_false, bI_true, bI_false, and_true, true_and, and_false, false_and, or_true, true_or, or_false, false_or, not_true_eq_false, not_false_eq_true]] at hj
    exact hj
set_option maxRecDepth 100000 in
set_option maxHeartbeats 4000000 in
theorem w_X11_bit {E : Envt} {d : Nat} {Q : Pst} {h : mS} {I : mI} {L : mL} (hs : SL h) (x0 : Int32) 
    (hW : Q (some (.int (bI (¬ (x0 = 0))))) h I L) :
    CT E mX11_bit d 0 0 [.int x0] h I L Q := by
  refine CT.of (by decide) [some (.int x0)] rfl (Nat.le_of_ble_eq_true rfl) ?_
  refine J.iload_n dX11_bit_0 rfl rfl ?_
  have hj : J E mX11_bit d Q 0 0 9 [some (.int x0)] [.int (bI (¬ (x0 = 0)))] h I L := by
    exact J.reti dX11_bit_9 rfl rfl hW
  refine J.if_eq 8 dX11_bit_1 (by decide) (fun hc1 => ?_) (fun hc1 => ?_)
  · refine J.iconst (v := 0) dX11_bit_8 (by decide) ?_
    rw [show bI (¬ (x0 = 0)) = 0 from bI_f (by simp only [eq_true hc1, and_true, true_and, and_false, false_and, or_true, true_or, or_false, false_or, not_true_eq_false, not_false_eq_true])] at hj
    exact hj
  · refine J.iconst (v := 1) dX11_bit_4 (by decide) ?_
    refine J.goto 9 dX11_bit_5 (by decide) ?_
    rw [show bI (¬ (x0 = 0)) = 1 from bI_t (by simp only [eq_false hc1, and_true, true_and, and_false, false_and, or_true, true_or, or_false, false_or, not_true_eq_false, not_false_eq_true])] at hj
    exact hj
set_option maxRecDepth 100000 in
set_option maxHeartbeats 4000000 in
theorem w_X7_isAhead {E : Envt} {d : Nat} {Q : Pst} {h : mS} {I : mI} {L : mL} (hs : SL h) (x1 : Int32) (x2 : Int32) 
    (hW : (vp_in x1 20 ∧ (vp_in x2 20 ∧ Q (some (.int (bI (((I 11 x1.toNatClampNeg) < (I 11 x2.toNatClampNeg)) ∨ (((I 11 x1.toNatClampNeg) = (I 11 x2.toNatClampNeg)) ∧ (¬ (x2 ≤ x1))))))) h I L))) :
    CT E mX7_isAhead d 0 0 [.ref (eB E + 7), .int x1, .int x2] h I L Q := by
  refine CT.of (by decide) [some (.ref (eB E + 7)), some (.int x1), some (.int x2)] rfl (Nat.le_of_ble_eq_true rfl) ?_
  refine J.aload_n dX7_isAhead_0 rfl rfl ?_
  refine J.getR (r := 11) fl_X7_21 rfl dX7_isAhead_1 (lt7 hs) (kk7 hs) (rr7_4 hs) ?_
  refine J.iload_n dX7_isAhead_4 rfl rfl ?_
  obtain ⟨hb1, hW⟩ := hW
  refine J.iald (x := I 11 x1.toNatClampNeg) dX7_isAhead_5 (lt11 hs) (kk11 hs) hb1 rfl ?_
  refine J.aload_n dX7_isAhead_6 rfl rfl ?_
  refine J.getR (r := 11) fl_X7_21 rfl dX7_isAhead_7 (lt7 hs) (kk7 hs) (rr7_4 hs) ?_
  refine J.iload_n dX7_isAhead_10 rfl rfl ?_
  obtain ⟨hb2, hW⟩ := hW
  refine J.iald (x := I 11 x2.toNatClampNeg) dX7_isAhead_11 (lt11 hs) (kk11 hs) hb2 rfl ?_
  have hj : J E mX7_isAhead d Q 0 0 40 [some (.ref (eB E + 7)), some (.int x1), some (.int x2)] [.int (bI (((I 11 x1.toNatClampNeg) < (I 11 x2.toNatClampNeg)) ∨ (((I 11 x1.toNatClampNeg) = (I 11 x2.toNatClampNeg)) ∧ (¬ (x2 ≤ x1)))))] h I L := by
    exact J.reti dX7_isAhead_40 rfl (bz_nar (bI_bz _)) hW
  refine J.ic_lt 35 dX7_isAhead_12 (by decide) (fun hc3 => ?_) (fun hc3 => ?_)
  · refine J.iconst (v := 1) dX7_isAhead_35 (by decide) ?_
    refine J.goto 40 dX7_isAhead_36 (by decide) ?_
    rw [show bI (((I 11 x1.toNatClampNeg) < (I 11 x2.toNatClampNeg)) ∨ (((I 11 x1.toNatClampNeg) = (I 11 x2.toNatClampNeg)) ∧ (¬ (x2 ≤ x1)))) = 1 from bI_t (by simp only [eq_true hc3, and_true, true_and, and_false, false_and, or_true, true_or, or_false, false_or, not_true_eq_false, not_false_eq_true])] at hj
    exact hj
  · refine J.aload_n dX7_isAhead_15 rfl rfl ?_
    refine J.getR (r := 11) fl_X7_21 rfl dX7_isAhead_16 (lt7 hs) (kk7 hs) (rr7_4 hs) ?_
    refine J.iload_n dX7_isAhead_19 rfl rfl ?_
    refine J.iald (x := I 11 x1.toNatClampNeg) dX7_isAhead_20 (lt11 hs) (kk11 hs) hb1 rfl ?_
    refine J.aload_n dX7_isAhead_21 rfl rfl ?_
    refine J.getR (r := 11) fl_X7_21 rfl dX7_isAhead_22 (lt7 hs) (kk7 hs) (rr7_4 hs) ?_
    refine J.iload_n dX7_isAhead_25 rfl rfl ?_
    refine J.iald (x := I 11 x2.toNatClampNeg) dX7_isAhead_26 (lt11 hs) (kk11 hs) hb2 rfl ?_
    refine J.ic_ne 39 dX7_isAhead_27 (by decide) (fun hc4 => ?_) (fun hc4 => ?_)
    · refine J.iconst (v := 0) dX7_isAhead_39 (by decide) ?_
      rw [show bI (((I 11 x1.toNatClampNeg) < (I 11 x2.toNatClampNeg)) ∨ (((I 11 x1.toNatClampNeg) = (I 11 x2.toNatClampNeg)) ∧ (¬ (x2 ≤ x1)))) = 0 from bI_f (by simp only [eq_false hc3, eq_false hc4, and_true, true_and, and_false, false_and, or_true, true_or, or_false, false_or, not_true_eq_false, not_false_eq_true])] at hj
      exact hj
    · refine J.iload_n dX7_isAhead_30 rfl rfl ?_
      refine J.iload_n dX7_isAhead_31 rfl rfl ?_
      refine J.ic_ge 39 dX7_isAhead_32 (by decide) (fun hc5 => ?_) (fun hc5 => ?_)
      · refine J.iconst (v := 0) dX7_isAhead_39 (by decide) ?_
        rw [show bI (((I 11 x1.toNatClampNeg) < (I 11 x2.toNatClampNeg)) ∨ (((I 11 x1.toNatClampNeg) = (I 11 x2.toNatClampNeg)) ∧ (¬ (x2 ≤ x1)))) = 0 from bI_f (by simp only [eq_false hc3, eq_true hc4, eq_true hc5, and_true, true_and, and_false, false_and, or_true, true_or, or_false, false_or, not_true_eq_false, not_false_eq_true])] at hj
        exact hj
      · refine J.iconst (v := 1) dX7_isAhead_35 (by decide) ?_
        refine J.goto 40 dX7_isAhead_36 (by decide) ?_
        rw [show bI (((I 11 x1.toNatClampNeg) < (I 11 x2.toNatClampNeg)) ∨ (((I 11 x1.toNatClampNeg) = (I 11 x2.toNatClampNeg)) ∧ (¬ (x2 ≤ x1)))) = 1 from bI_t (by simp only [eq_false hc3, eq_true hc4, eq_false hc5, and_true, true_and, and_false, false_and, or_true, true_or, or_false, false_or, not_true_eq_false, not_false_eq_true])] at hj
        exact hj
set_option maxRecDepth 100000 in
set_option maxHeartbeats 4000000 in
theorem w_X7_hasElder {E : Envt} {d : Nat} {Q : Pst} {h : mS} {I : mI} {L : mL} (hs : SL h) (x1 : Int32) 
    (hW : J E mX7_hasElder (d + 1) Q 0 0 2 [some (.ref (eB E + 7)), some (.int x1), some (.int 0)] [] h I L) :
    CT E mX7_hasElder (d + 1) 0 0 [.ref (eB E + 7), .int x1] h I L Q := by
  refine CT.of (by decide) [some (.ref (eB E + 7)), some (.int x1), none] rfl (Nat.le_of_ble_eq_true rfl) ?_
  refine J.iconst (v := 0) dX7_hasElder_0 (by decide) ?_
  refine J.istore_n (vs' := [some (.ref (eB E + 7)), some (.int x1), some (.int 0)]) dX7_hasElder_1 rfl (by decide) rfl ?_
  exact hW
set_option maxRecDepth 100000 in
set_option maxHeartbeats 4000000 in
theorem w_X7_hasElder_2 {E : Envt} {d : Nat} {Q : Pst} {h : mS} {I : mI} {L : mL} (hs : SL h)    (x1 : Int32) (x2 : Int32)
    (hW : ((((I 7 0) ≤ x2) → Q (some (.int 0)) h I L) ∧ (¬ ((I 7 0) ≤ x2) → (vp_in x2 20 ∧ ((((I 9 x2.toNatClampNeg) = 0) → (vp_in x1 20 ∧ ((((I 8 x2.toNatClampNeg) = (I 8 x1.toNatClampNeg)) → ((((I 14 x2.toNatClampNeg) = 0) → J E mX7_hasElder (d + 1) Q 0 0 2 [some (.ref (eB E + 7)), some (.int x1), some (.int (x2 + 1))] [] h I L) ∧ (¬ ((I 14 x2.toNatClampNeg) = 0) → ((((I 16 x2.toNatClampNeg) = 0) → ((vp_in x2 20) ∧ ((vp_in x1 20) ∧ (((((I 11 x2.toNatClampNeg) < (I 11 x1.toNatClampNeg)) ∨ (((I 11 x2.toNatClampNeg) = (I 11 x1.toNatClampNeg)) ∧ (¬ (x1 ≤ x2)))) → Q (some (.int 1)) h I L) ∧ (¬ (((I 11 x2.toNatClampNeg) < (I 11 x1.toNatClampNeg)) ∨ (((I 11 x2.toNatClampNeg) = (I 11 x1.toNatClampNeg)) ∧ (¬ (x1 ≤ x2)))) → J E mX7_hasElder (d + 1) Q 0 0 2 [some (.ref (eB E + 7)), some (.int x1), some (.int (x2 + 1))] [] h I L))))) ∧ (¬ ((I 16 x2.toNatClampNeg) = 0) → J E mX7_hasElder (d + 1) Q 0 0 2 [some (.ref (eB E + 7)), some (.int x1), some (.int (x2 + 1))] [] h I L))))) ∧ (¬ ((I 8 x2.toNatClampNeg) = (I 8 x1.toNatClampNeg)) → J E mX7_hasElder (d + 1) Q 0 0 2 [some (.ref (eB E + 7)), some (.int x1), some (.int (x2 + 1))] [] h I L)))) ∧ (¬ ((I 9 x2.toNatClampNeg) = 0) → J E mX7_hasElder (d + 1) Q 0 0 2 [some (.ref (eB E + 7)), some (.int x1), some (.int (x2 + 1))] [] h I L)))))) :
    J E mX7_hasElder (d + 1) Q 0 0 2 [some (.ref (eB E + 7)), some (.int x1), some (.int x2)] [] h I L := by
  refine J.iload_n dX7_hasElder_2 rfl rfl ?_
  refine J.aload_n dX7_hasElder_3 rfl rfl ?_
  refine J.getI (x := I 7 0) fl_X7_40 rfl dX7_hasElder_4 (lt7 hs) (kk7 hs) rfl ?_
  refine J.ic_ge 69 dX7_hasElder_7 (by decide) (fun hc1 => ?_) (fun hc1 => ?_)
  · have hW := hW.1 hc1
    refine J.iconst (v := 0) dX7_hasElder_69 (by decide) ?_
    exact J.reti dX7_hasElder_70 rfl (bz_nar (Or.inl rfl)) hW
  · have hW := hW.2 hc1
    refine J.aload_n dX7_hasElder_10 rfl rfl ?_
    refine J.getR (r := 9) fl_X7_15 rfl dX7_hasElder_11 (lt7 hs) (kk7 hs) (rr7_2 hs) ?_
    refine J.iload_n dX7_hasElder_14 rfl rfl ?_
    obtain ⟨hb2, hW⟩ := hW
    refine J.iald (x := I 9 x2.toNatClampNeg) dX7_hasElder_15 (lt9 hs) (kk9 hs) hb2 rfl ?_
    refine J.if_ne 63 dX7_hasElder_16 (by decide) (fun hc3 => ?_) (fun hc3 => ?_)
    · have hW := hW.2 hc3
      refine J.iinc (v := x2 + 1) (vs' := [some (.ref (eB E + 7)), some (.int x1), some (.int (x2 + 1))]) dX7_hasElder_63 rfl (by rfl) (by decide) rfl ?_
      refine J.goto 2 dX7_hasElder_66 (by decide) ?_
      exact hW
    · have hW := hW.1 hc3
      refine J.aload_n dX7_hasElder_19 rfl rfl ?_
      refine J.getR (r := 8) fl_X7_9 rfl dX7_hasElder_20 (lt7 hs) (kk7 hs) (rr7_1 hs) ?_
      refine J.iload_n dX7_hasElder_23 rfl rfl ?_
      refine J.iald (x := I 8 x2.toNatClampNeg) dX7_hasElder_24 (lt8 hs) (kk8 hs) hb2 rfl ?_
      refine J.aload_n dX7_hasElder_25 rfl rfl ?_
      refine J.getR (r := 8) fl_X7_9 rfl dX7_hasElder_26 (lt7 hs) (kk7 hs) (rr7_1 hs) ?_
      refine J.iload_n dX7_hasElder_29 rfl rfl ?_
      obtain ⟨hb4, hW⟩ := hW
      refine J.iald (x := I 8 x1.toNatClampNeg) dX7_hasElder_30 (lt8 hs) (kk8 hs) hb4 rfl ?_
      refine J.ic_ne 63 dX7_hasElder_31 (by decide) (fun hc5 => ?_) (fun hc5 => ?_)
      · have hW := hW.2 hc5
        refine J.iinc (v := x2 + 1) (vs' := [some (.ref (eB E + 7)), some (.int x1), some (.int (x2 + 1))]) dX7_hasElder_63 rfl (by rfl) (by decide) rfl ?_
        refine J.goto 2 dX7_hasElder_66 (by decide) ?_
        exact hW
      · have hW := hW.1 hc5
        refine J.aload_n dX7_hasElder_34 rfl rfl ?_
        refine J.getR (r := 14) fl_X7_30 rfl dX7_hasElder_35 (lt7 hs) (kk7 hs) (rr7_7 hs) ?_
        refine J.iload_n dX7_hasElder_38 rfl rfl ?_
        refine J.zald (x := I 14 x2.toNatClampNeg) dX7_hasElder_39 (lt14 hs) (kk14 hs) hb2 rfl ?_
        refine J.if_eq 63 dX7_hasElder_40 (by decide) (fun hc6 => ?_) (fun hc6 => ?_)
        · have hW := hW.1 hc6
          refine J.iinc (v := x2 + 1) (vs' := [some (.ref (eB E + 7)), some (.int x1), some (.int (x2 + 1))]) dX7_hasElder_63 rfl (by rfl) (by decide) rfl ?_
          refine J.goto 2 dX7_hasElder_66 (by decide) ?_
          exact hW
        · have hW := hW.2 hc6
          refine J.aload_n dX7_hasElder_43 rfl rfl ?_
          refine J.getR (r := 16) fl_X7_37 rfl dX7_hasElder_44 (lt7 hs) (kk7 hs) (rr7_9 hs) ?_
          refine J.iload_n dX7_hasElder_47 rfl rfl ?_
          refine J.zald (x := I 16 x2.toNatClampNeg) dX7_hasElder_48 (lt16 hs) (kk16 hs) hb2 rfl ?_
          refine J.if_ne 63 dX7_hasElder_49 (by decide) (fun hc7 => ?_) (fun hc7 => ?_)
          · have hW := hW.2 hc7
            refine J.iinc (v := x2 + 1) (vs' := [some (.ref (eB E + 7)), some (.int x1), some (.int (x2 + 1))]) dX7_hasElder_63 rfl (by rfl) (by decide) rfl ?_
            refine J.goto 2 dX7_hasElder_66 (by decide) ?_
            exact hW
          · have hW := hW.1 hc7
            refine J.aload_n dX7_hasElder_52 rfl rfl ?_
            refine J.iload_n dX7_hasElder_53 rfl rfl ?_
            refine J.iload_n dX7_hasElder_54 rfl rfl ?_
            obtain ⟨hb8, hW⟩ := hW
            obtain ⟨hb9, hW⟩ := hW
            refine J.callV (M' := mX7_isAhead) (index := 48) (bc := 0) (bs := 0) (bc' := 0) (bs' := 0) (st := []) [.int x2, .int x1] ml_X7_48 cv_X7_isAhead dX7_hasElder_55 (lt7 hs) (kk7 hs) (by decide) rfl rfl rfl rfl (Nat.le_of_ble_eq_true rfl) (kqi (w_X7_isAhead (d := d) (Q := qi h L (fun v I' => I' = I ∧ v = bI (((I 11 x2.toNatClampNeg) < (I 11 x1.toNatClampNeg)) ∨ (((I 11 x2.toNatClampNeg) = (I 11 x1.toNatClampNeg)) ∧ (¬ (x1 ≤ x2)))))) hs x2 x1 ⟨hb8, hb9, rfl, rfl, _, rfl, rfl, rfl⟩) (fun v10 I11 hv => ?_))
            rw [hv.1, hv.2]
            refine J.if_eq 63 dX7_hasElder_58 (by decide) (fun hc12 => ?_) (fun hc12 => ?_)
            · have hc12 := bI_0.mp hc12
              have hW := hW.2 hc12
              refine J.iinc (v := x2 + 1) (vs' := [some (.ref (eB E + 7)), some (.int x1), some (.int (x2 + 1))]) dX7_hasElder_63 rfl (by rfl) (by decide) rfl ?_
              refine J.goto 2 dX7_hasElder_66 (by decide) ?_
              exact hW
            · have hc12 := bI_n0.mp hc12
              have hW := hW.1 hc12
              refine J.iconst (v := 1) dX7_hasElder_61 (by decide) ?_
              exact J.reti dX7_hasElder_62 rfl (bz_nar (Or.inr rfl)) hW
