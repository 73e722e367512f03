set_option maxRecDepth 100000 in
set_option maxHeartbeats 4000000 in
theorem w_X6_weddings {E : Envt} {d : Nat} {Q : Pst} {h : mS} {I : mI} {L : mL} (hs : SL h)  
    (hW : J E mX6_weddings d Q 0 0 4 [some (.ref (eB E + 65)), some (.int 0), some (.int 0)] [] h I L) :
    CT E mX6_weddings d 0 0 [.ref (eB E + 65)] h I L Q := by
  refine CT.of (by decide) [some (.ref (eB E + 65)), none, none] rfl (Nat.le_of_ble_eq_true rfl) ?_
  refine J.iconst (v := 0) dX6_weddings_0 (by decide) ?_
  refine J.istore_n (vs' := [some (.ref (eB E + 65)), some (.int 0), none]) dX6_weddings_1 rfl (by decide) rfl ?_
  refine J.iconst (v := 0) dX6_weddings_2 (by decide) ?_
  refine J.istore_n (vs' := [some (.ref (eB E + 65)), some (.int 0), some (.int 0)]) dX6_weddings_3 rfl (by decide) rfl ?_
  exact hW
set_option maxRecDepth 100000 in
set_option maxHeartbeats 4000000 in
theorem w_X6_weddings_4 {E : Envt} {d : Nat} {Q : Pst} {h : mS} {I : mI} {L : mL} (hs : SL h)    (x1 : Int32) (x2 : Int32)
    (hW : ((((I 65 4) ≤ x2) → Q (some (.int x1)) h I L) ∧ (¬ ((I 65 4) ≤ x2) → (vp_in x2 8 ∧ (∀ y4 : Int32, y4 = x1 + (bI (¬ ((I 76 x2.toNatClampNeg) = (-1)))) → J E mX6_weddings d Q 0 0 4 [some (.ref (eB E + 65)), some (.int y4), some (.int (x2 + 1))] [] h I L))))) :
    J E mX6_weddings d Q 0 0 4 [some (.ref (eB E + 65)), some (.int x1), some (.int x2)] [] h I L := by
  refine J.iload_n dX6_weddings_4 rfl rfl ?_
  refine J.aload_n dX6_weddings_5 rfl rfl ?_
  refine J.getI (x := I 65 4) fl_X6_58 rfl dX6_weddings_6 (lt65 hs) (kk65 hs) rfl ?_
  refine J.ic_ge 36 dX6_weddings_9 (by decide) (fun hc1 => ?_) (fun hc1 => ?_)
  · have hW := hW.1 hc1
    refine J.iload_n dX6_weddings_36 rfl rfl ?_
    exact J.reti dX6_weddings_37 rfl rfl hW
  · have hW := hW.2 hc1
    refine J.iload_n dX6_weddings_12 rfl rfl ?_
    refine J.aload_n dX6_weddings_13 rfl rfl ?_
    refine J.getR (r := 76) fl_X6_43 rfl dX6_weddings_14 (lt65 hs) (kk65 hs) (rr65_14 hs) ?_
    refine J.iload_n dX6_weddings_17 rfl rfl ?_
    obtain ⟨hb2, hW⟩ := hW
    refine J.iald (x := I 76 x2.toNatClampNeg) dX6_weddings_18 (lt76 hs) (kk76 hs) hb2 rfl ?_
    refine J.iconst (v := (-1)) dX6_weddings_19 (by decide) ?_
    have hj : J E mX6_weddings d Q 0 0 28 [some (.ref (eB E + 65)), some (.int x1), some (.int x2)] [.int (bI (¬ ((I 76 x2.toNatClampNeg) = (-1)))), .int x1] h I L := by
      refine J.iadd dX6_weddings_28 ?_
      refine J.topi (fun y4 hyy4 => ?_)
      have hW := hW y4 hyy4
      refine J.istore_n (vs' := [some (.ref (eB E + 65)), some (.int y4), some (.int x2)]) dX6_weddings_29 rfl (by decide) rfl ?_
      refine J.iinc (v := x2 + 1) (vs' := [some (.ref (eB E + 65)), some (.int y4), some (.int (x2 + 1))]) dX6_weddings_30 rfl (by rfl) (by decide) rfl ?_
      refine J.goto 4 dX6_weddings_33 (by decide) ?_
      exact hW
    refine J.ic_ne 27 dX6_weddings_20 (by decide) (fun hc3 => ?_) (fun hc3 => ?_)
    · refine J.iconst (v := 1) dX6_weddings_27 (by decide) ?_
      rw [show bI (¬ ((I 76 x2.toNatClampNeg) = (-1))) = 1 from bI_t (by simp only [eq_false hc3, and_true, true_and, and_false, false_and, or_true, true_or, or_false, false_or, not_true_eq_false, not_false_eq_true])] at hj
      exact hj
    · refine J.iconst (v := 0) dX6_weddings_23 (by decide) ?_
      refine J.goto 28 dX6_weddings_24 (by decide) ?_
      rw [show bI (¬ ((I 76 x2.toNatClampNeg) = (-1))) = 0 from bI_f (by simp only [eq_true hc3, and_true, true_and, and_false, false_and, or_true, true_or, or_false, false_or, not_true_eq_false, not_false_eq_true])] at hj
      exact hj
set_option maxRecDepth 100000 in
set_option maxHeartbeats 4000000 in
theorem w_X6_feudsEnded {E : Envt} {d : Nat} {Q : Pst} {h : mS} {I : mI} {L : mL} (hs : SL h)  
    (hW : J E mX6_feudsEnded d Q 0 0 4 [some (.ref (eB E + 65)), some (.int 0), some (.int 0)] [] h I L) :
    CT E mX6_feudsEnded d 0 0 [.ref (eB E + 65)] h I L Q := by
  refine CT.of (by decide) [some (.ref (eB E + 65)), none, none] rfl (Nat.le_of_ble_eq_true rfl) ?_
  refine J.iconst (v := 0) dX6_feudsEnded_0 (by decide) ?_
  refine J.istore_n (vs' := [some (.ref (eB E + 65)), some (.int 0), none]) dX6_feudsEnded_1 rfl (by decide) rfl ?_
  refine J.iconst (v := 0) dX6_feudsEnded_2 (by decide) ?_
  refine J.istore_n (vs' := [some (.ref (eB E + 65)), some (.int 0), some (.int 0)]) dX6_feudsEnded_3 rfl (by decide) rfl ?_
  exact hW
set_option maxRecDepth 100000 in
set_option maxHeartbeats 4000000 in
theorem w_X6_feudsEnded_4 {E : Envt} {d : Nat} {Q : Pst} {h : mS} {I : mI} {L : mL} (hs : SL h)    (x1 : Int32) (x2 : Int32)
    (hW : ((((I 65 4) ≤ x2) → Q (some (.int x1)) h I L) ∧ (¬ ((I 65 4) ≤ x2) → (vp_in x2 8 ∧ ((¬ ((I 76 x2.toNatClampNeg) = (-1)) → vp_in ((x2 * 8) + (I 76 x2.toNatClampNeg)) 64) ∧ (∀ y7 : Int32, y7 = (if (I 76 x2.toNatClampNeg) = (-1) then x1 else if (I 70 (((x2 * 8) + (I 76 x2.toNatClampNeg)).toNatClampNeg)) = 0 then x1 else x1 + 1) → J E mX6_feudsEnded d Q 0 0 4 [some (.ref (eB E + 65)), some (.int y7), some (.int (x2 + 1))] [] h I L)))))) :
    J E mX6_feudsEnded d Q 0 0 4 [some (.ref (eB E + 65)), some (.int x1), some (.int x2)] [] h I L := by
  refine J.iload_n dX6_feudsEnded_4 rfl rfl ?_
  refine J.aload_n dX6_feudsEnded_5 rfl rfl ?_
  refine J.getI (x := I 65 4) fl_X6_58 rfl dX6_feudsEnded_6 (lt65 hs) (kk65 hs) rfl ?_
  refine J.ic_ge 50 dX6_feudsEnded_9 (by decide) (fun hc1 => ?_) (fun hc1 => ?_)
  · have hW := hW.1 hc1
    refine J.iload_n dX6_feudsEnded_50 rfl rfl ?_
    exact J.reti dX6_feudsEnded_51 rfl rfl hW
  · have hW := hW.2 hc1
    refine J.aload_n dX6_feudsEnded_12 rfl rfl ?_
    refine J.getR (r := 76) fl_X6_43 rfl dX6_feudsEnded_13 (lt65 hs) (kk65 hs) (rr65_14 hs) ?_
    refine J.iload_n dX6_feudsEnded_16 rfl rfl ?_
    obtain ⟨hb2, hW⟩ := hW
    refine J.iald (x := I 76 x2.toNatClampNeg) dX6_feudsEnded_17 (lt76 hs) (kk76 hs) hb2 rfl ?_
    refine J.iconst (v := (-1)) dX6_feudsEnded_18 (by decide) ?_
    obtain ⟨hq5, hW⟩ := hW
    obtain ⟨y7, hyy7⟩ : ∃ y7 : Int32, y7 = (if (I 76 x2.toNatClampNeg) = (-1) then x1 else if (I 70 (((x2 * 8) + (I 76 x2.toNatClampNeg)).toNatClampNeg)) = 0 then x1 else x1 + 1) := ⟨_, rfl⟩
    have hW := hW y7 hyy7
    have hj : J E mX6_feudsEnded d Q 0 0 44 [some (.ref (eB E + 65)), some (.int y7), some (.int x2)] [] h I L := by
      refine J.iinc (v := x2 + 1) (vs' := [some (.ref (eB E + 65)), some (.int y7), some (.int (x2 + 1))]) dX6_feudsEnded_44 rfl (by rfl) (by decide) rfl ?_
      refine J.goto 4 dX6_feudsEnded_47 (by decide) ?_
      exact hW
    refine J.ic_eq 44 dX6_feudsEnded_19 (by decide) (fun hc3 => ?_) (fun hc3 => ?_)
    · rw [show y7 = x1 from by simp only [hyy7, eq_true hc3, if_true, if_false, bI_true, bI_false, and_true, true_and, and_false, false_and, or_true, true_or, or_false, false_or, not_true_eq_false, not_false_eq_true]] at hj
      exact hj
    · refine J.aload_n dX6_feudsEnded_22 rfl rfl ?_
      refine J.getR (r := 70) fl_X6_25 rfl dX6_feudsEnded_23 (lt65 hs) (kk65 hs) (rr65_8 hs) ?_
      refine J.iload_n dX6_feudsEnded_26 rfl rfl ?_
      refine J.bipush (v := 8) dX6_feudsEnded_27 (by decide) ?_
      refine J.imul dX6_feudsEnded_29 ?_
      refine J.aload_n dX6_feudsEnded_30 rfl rfl ?_
      refine J.getR (r := 76) fl_X6_43 rfl dX6_feudsEnded_31 (lt65 hs) (kk65 hs) (rr65_14 hs) ?_
      refine J.iload_n dX6_feudsEnded_34 rfl rfl ?_
      refine J.iald (x := I 76 x2.toNatClampNeg) dX6_feudsEnded_35 (lt76 hs) (kk76 hs) hb2 rfl ?_
      refine J.iadd dX6_feudsEnded_36 ?_
      have hb4 := hq5 hc3
      refine J.zald (x := I 70 (((x2 * 8) + (I 76 x2.toNatClampNeg)).toNatClampNeg)) dX6_feudsEnded_37 (lt70 hs) (kk70 hs) hb4 rfl ?_
      refine J.if_eq 44 dX6_feudsEnded_38 (by decide) (fun hc6 => ?_) (fun hc6 => ?_)
      · rw [show y7 = x1 from by simp only [hyy7, eq_false hc3, eq_true hc6, if_true, if_false, bI_true, bI_false, and_true, true_and, and_false, false_and, or_true, true_or, or_false, false_or, not_true_eq_false, not_false_eq_true]] at hj
        exact hj
      · refine J.iinc (v := x1 + 1) (vs' := [some (.ref (eB E + 65)), some (.int (x1 + 1)), some (.int x2)]) dX6_feudsEnded_41 rfl (by rfl) (by decide) rfl ?_
        rw [show y7 = x1 + 1 from by simp only [hyy7, eq_false hc3, eq_false hc6, if_true, if_false, bI_true, bI_false, and_true, true_and, and_false, false_and, or_true, true_or, or_false, false_or, not_true_eq_false, not_false_eq_true]] at hj
        exact hj
set_option maxRecDepth 100000 in
set_option maxHeartbeats 4000000 in
theorem w_X6_giftsTogether {E : Envt} {d : Nat} {Q : Pst} {h : mS} {I : mI} {L : mL} (hs : SL h)  
    (hW : J E mX6_giftsTogether d Q 0 0 4 [some (.ref (eB E + 65)), some (.int 0), some (.int 0)] [] h I L) :
    CT E mX6_giftsTogether d 0 0 [.ref (eB E + 65)] h I L Q := by
  refine CT.of (by decide) [some (.ref (eB E + 65)), none, none] rfl (Nat.le_of_ble_eq_true rfl) ?_
  refine J.iconst (v := 0) dX6_giftsTogether_0 (by decide) ?_
  refine J.istore_n (vs' := [some (.ref (eB E + 65)), some (.int 0), none]) dX6_giftsTogether_1 rfl (by decide) rfl ?_
  refine J.iconst (v := 0) dX6_giftsTogether_2 (by decide) ?_
  refine J.istore_n (vs' := [some (.ref (eB E + 65)), some (.int 0), some (.int 0)]) dX6_giftsTogether_3 rfl (by decide) rfl ?_
  exact hW
set_option maxRecDepth 100000 in
set_option maxHeartbeats 4000000 in
theorem w_X6_giftsTogether_4 {E : Envt} {d : Nat} {Q : Pst} {h : mS} {I : mI} {L : mL} (hs : SL h)    (x1 : Int32) (x2 : Int32)
    (hW : ((((I 65 4) ≤ x2) → Q (some (.int x1)) h I L) ∧ (¬ ((I 65 4) ≤ x2) → (vp_in x2 8 ∧ ((¬ ((I 76 x2.toNatClampNeg) = (-1)) → vp_in ((x2 * 8) + (I 76 x2.toNatClampNeg)) 64) ∧ (∀ y6 : Int32, y6 = (if (I 76 x2.toNatClampNeg) = (-1) then x1 else x1 + (I 69 (((x2 * 8) + (I 76 x2.toNatClampNeg)).toNatClampNeg))) → J E mX6_giftsTogether d Q 0 0 4 [some (.ref (eB E + 65)), some (.int y6), some (.int (x2 + 1))] [] h I L)))))) :
    J E mX6_giftsTogether d Q 0 0 4 [some (.ref (eB E + 65)), some (.int x1), some (.int x2)] [] h I L := by
  refine J.iload_n dX6_giftsTogether_4 rfl rfl ?_
  refine J.aload_n dX6_giftsTogether_5 rfl rfl ?_
  refine J.getI (x := I 65 4) fl_X6_58 rfl dX6_giftsTogether_6 (lt65 hs) (kk65 hs) rfl ?_
  refine J.ic_ge 47 dX6_giftsTogether_9 (by decide) (fun hc1 => ?_) (fun hc1 => ?_)
  · have hW := hW.1 hc1
    refine J.iload_n dX6_giftsTogether_47 rfl rfl ?_
    exact J.reti dX6_giftsTogether_48 rfl rfl hW
  · have hW := hW.2 hc1
    refine J.aload_n dX6_giftsTogether_12 rfl rfl ?_
    refine J.getR (r := 76) fl_X6_43 rfl dX6_giftsTogether_13 (lt65 hs) (kk65 hs) (rr65_14 hs) ?_
    refine J.iload_n dX6_giftsTogether_16 rfl rfl ?_
    obtain ⟨hb2, hW⟩ := hW
    refine J.iald (x := I 76 x2.toNatClampNeg) dX6_giftsTogether_17 (lt76 hs) (kk76 hs) hb2 rfl ?_
    refine J.iconst (v := (-1)) dX6_giftsTogether_18 (by decide) ?_
    obtain ⟨hq5, hW⟩ := hW
    obtain ⟨y6, hyy6⟩ : ∃ y6 : Int32, y6 = (if (I 76 x2.toNatClampNeg) = (-1) then x1 else x1 + (I 69 (((x2 * 8) + (I 76 x2.toNatClampNeg)).toNatClampNeg))) := ⟨_, rfl⟩
    have hW := hW y6 hyy6
    have hj : J E mX6_giftsTogether d Q 0 0 41 [some (.ref (eB E + 65)), some (.int y6), some (.int x2)] [] h I L := by
      refine J.iinc (v := x2 + 1) (vs' := [some (.ref (eB E + 65)), some (.int y6), some (.int (x2 + 1))]) dX6_giftsTogether_41 rfl (by rfl) (by decide) rfl ?_
      refine J.goto 4 dX6_giftsTogether_44 (by decide) ?_
      exact hW
    refine J.ic_eq 41 dX6_giftsTogether_19 (by decide) (fun hc3 => ?_) (fun hc3 => ?_)
    · rw [show y6 = x1 from by simp only [hyy6, eq_true hc3, if_true, if_false, bI_true, bI_false, and_true, true_and, and_false, false_and, or_true, true_or, or_false, false_or, not_true_eq_false, not_false_eq_true]] at hj
      exact hj
    · refine J.iload_n dX6_giftsTogether_22 rfl rfl ?_
      refine J.aload_n dX6_giftsTogether_23 rfl rfl ?_
      refine J.getR (r := 69) fl_X6_22 rfl dX6_giftsTogether_24 (lt65 hs) (kk65 hs) (rr65_7 hs) ?_
      refine J.iload_n dX6_giftsTogether_27 rfl rfl ?_
      refine J.bipush (v := 8) dX6_giftsTogether_28 (by decide) ?_
      refine J.imul dX6_giftsTogether_30 ?_
      refine J.aload_n dX6_giftsTogether_31 rfl rfl ?_
      refine J.getR (r := 76) fl_X6_43 rfl dX6_giftsTogether_32 (lt65 hs) (kk65 hs) (rr65_14 hs) ?_
      refine J.iload_n dX6_giftsTogether_35 rfl rfl ?_
      refine J.iald (x := I 76 x2.toNatClampNeg) dX6_giftsTogether_36 (lt76 hs) (kk76 hs) hb2 rfl ?_
      refine J.iadd dX6_giftsTogether_37 ?_
      have hb4 := hq5 hc3
      refine J.iald (x := I 69 (((x2 * 8) + (I 76 x2.toNatClampNeg)).toNatClampNeg)) dX6_giftsTogether_38 (lt69 hs) (kk69 hs) hb4 rfl ?_
      refine J.iadd dX6_giftsTogether_39 ?_
      refine J.istore_n (vs' := [some (.ref (eB E + 65)), some (.int (x1 + (I 69 (((x2 * 8) + (I 76 x2.toNatClampNeg)).toNatClampNeg)))), some (.int x2)]) dX6_giftsTogether_40 rfl (by decide) rfl ?_
      rw [show y6 = x1 + (I 69 (((x2 * 8) + (I 76 x2.toNatClampNeg)).toNatClampNeg)) from by simp only [hyy6, eq_false hc3, if_true, if_false, bI_true, bI_false, and_true, true_and, and_false, false_and, or_true, true_or, or_false, false_or, not_true_eq_false, not_false_eq_true]] at hj
      exact hj
set_option maxRecDepth 100000 in
set_option maxHeartbeats 4000000 in
theorem w_X6_partnerOf {E : Envt} {d : Nat} {Q : Pst} {h : mS} {I : mI} {L : mL} (hs : SL h) (x1 : Int32) 
    (hW : J E mX6_partnerOf d Q 0 0 2 [some (.ref (eB E + 65)), some (.int x1), some (.int 0), none] [] h I L) :
    CT E mX6_partnerOf d 0 0 [.ref (eB E + 65), .int x1] h I L Q := by
  refine CT.of (by decide) [some (.ref (eB E + 65)), some (.int x1), none, none] rfl (Nat.le_of_ble_eq_true rfl) ?_
  refine J.iconst (v := 0) dX6_partnerOf_0 (by decide) ?_
  refine J.istore_n (vs' := [some (.ref (eB E + 65)), some (.int x1), some (.int 0), none]) dX6_partnerOf_1 rfl (by decide) rfl ?_
  exact hW
set_option maxRecDepth 100000 in
set_option maxHeartbeats 4000000 in
theorem w_X6_partnerOf_2 {E : Envt} {d : Nat} {Q : Pst} {h : mS} {I : mI} {L : mL} (hs : SL h)    (x1 : Int32) (x2 : Int32)
    (hW : ((((I 65 4) ≤ x2) → Q (some (.int (-1))) h I L) ∧ (¬ ((I 65 4) ≤ x2) → (vp_in x2 8 ∧ ((((I 76 x2.toNatClampNeg) = (-1)) → J E mX6_partnerOf d Q 0 0 2 [some (.ref (eB E + 65)), some (.int x1), some (.int (x2 + 1)), none] [] h I L) ∧ (¬ ((I 76 x2.toNatClampNeg) = (-1)) → (vp_in (I 76 x2.toNatClampNeg) 8 ∧ (∀ y5 : Int32, y5 = I 67 ((I 76 x2.toNatClampNeg).toNatClampNeg) → ((((I 66 x2.toNatClampNeg) = x1) → Q (some (.int y5)) h I L) ∧ (¬ ((I 66 x2.toNatClampNeg) = x1) → (((y5 = x1) → Q (some (.int (I 66 x2.toNatClampNeg))) h I L) ∧ (¬ (y5 = x1) → J E mX6_partnerOf d Q 0 0 2 [some (.ref (eB E + 65)), some (.int x1), some (.int (x2 + 1)), none] [] h I L)))))))))))) :
    J E mX6_partnerOf d Q 0 0 2 [some (.ref (eB E + 65)), some (.int x1), some (.int x2), none] [] h I L := by
  refine J.iload_n dX6_partnerOf_2 rfl rfl ?_
  refine J.aload_n dX6_partnerOf_3 rfl rfl ?_
  refine J.getI (x := I 65 4) fl_X6_58 rfl dX6_partnerOf_4 (lt65 hs) (kk65 hs) rfl ?_
  refine J.ic_ge 62 dX6_partnerOf_7 (by decide) (fun hc1 => ?_) (fun hc1 => ?_)
  · have hW := hW.1 hc1
    refine J.iconst (v := (-1)) dX6_partnerOf_62 (by decide) ?_
    exact J.reti dX6_partnerOf_63 rfl rfl hW
  · have hW := hW.2 hc1
    refine J.aload_n dX6_partnerOf_10 rfl rfl ?_
    refine J.getR (r := 76) fl_X6_43 rfl dX6_partnerOf_11 (lt65 hs) (kk65 hs) (rr65_14 hs) ?_
    refine J.iload_n dX6_partnerOf_14 rfl rfl ?_
    obtain ⟨hb2, hW⟩ := hW
    refine J.iald (x := I 76 x2.toNatClampNeg) dX6_partnerOf_15 (lt76 hs) (kk76 hs) hb2 rfl ?_
    refine J.iconst (v := (-1)) dX6_partnerOf_16 (by decide) ?_
    refine J.ic_eq 56 dX6_partnerOf_17 (by decide) (fun hc3 => ?_) (fun hc3 => ?_)
    · have hW := hW.1 hc3
      refine J.iinc (v := x2 + 1) (vs' := [some (.ref (eB E + 65)), some (.int x1), some (.int (x2 + 1)), none]) dX6_partnerOf_56 rfl (by rfl) (by decide) rfl ?_
      refine J.goto 2 dX6_partnerOf_59 (by decide) ?_
      exact hW
    · have hW := hW.2 hc3
      refine J.aload_n dX6_partnerOf_20 rfl rfl ?_
      refine J.getR (r := 67) fl_X6_15 rfl dX6_partnerOf_21 (lt65 hs) (kk65 hs) (rr65_3 hs) ?_
      refine J.aload_n dX6_partnerOf_24 rfl rfl ?_
      refine J.getR (r := 76) fl_X6_43 rfl dX6_partnerOf_25 (lt65 hs) (kk65 hs) (rr65_14 hs) ?_
      refine J.iload_n dX6_partnerOf_28 rfl rfl ?_
      refine J.iald (x := I 76 x2.toNatClampNeg) dX6_partnerOf_29 (lt76 hs) (kk76 hs) hb2 rfl ?_
      obtain ⟨hb4, hW⟩ := hW
      refine J.iald (x := I 67 ((I 76 x2.toNatClampNeg).toNatClampNeg)) dX6_partnerOf_30 (lt67 hs) (kk67 hs) hb4 rfl ?_
      refine J.topi (fun y5 hyy5 => ?_)
      have hW := hW y5 hyy5
      refine J.istore_n (vs' := [some (.ref (eB E + 65)), some (.int x1), some (.int x2), some (.int y5)]) dX6_partnerOf_31 rfl (by decide) rfl ?_
      refine J.aload_n dX6_partnerOf_32 rfl rfl ?_
      refine J.getR (r := 66) fl_X6_9 rfl dX6_partnerOf_33 (lt65 hs) (kk65 hs) (rr65_2 hs) ?_
      refine J.iload_n dX6_partnerOf_36 rfl rfl ?_
      refine J.iald (x := I 66 x2.toNatClampNeg) dX6_partnerOf_37 (lt66 hs) (kk66 hs) hb2 rfl ?_
      refine J.iload_n dX6_partnerOf_38 rfl rfl ?_
      refine J.ic_ne 44 dX6_partnerOf_39 (by decide) (fun hc6 => ?_) (fun hc6 => ?_)
      · have hW := hW.2 hc6
        refine J.iload_n dX6_partnerOf_44 rfl rfl ?_
        refine J.iload_n dX6_partnerOf_45 rfl rfl ?_
        refine J.ic_ne 56 dX6_partnerOf_46 (by decide) (fun hc7 => ?_) (fun hc7 => ?_)
        · have hW := hW.2 hc7
          refine J.iinc (v := x2 + 1) (vs' := [some (.ref (eB E + 65)), some (.int x1), some (.int (x2 + 1)), some (.int y5)]) dX6_partnerOf_56 rfl (by rfl) (by decide) rfl ?_
          refine J.goto 2 dX6_partnerOf_59 (by decide) ?_
          exact J.mask [true, true, true, false] rfl hW
        · have hW := hW.1 hc7
          refine J.aload_n dX6_partnerOf_49 rfl rfl ?_
          refine J.getR (r := 66) fl_X6_9 rfl dX6_partnerOf_50 (lt65 hs) (kk65 hs) (rr65_2 hs) ?_
          refine J.iload_n dX6_partnerOf_53 rfl rfl ?_
          refine J.iald (x := I 66 x2.toNatClampNeg) dX6_partnerOf_54 (lt66 hs) (kk66 hs) hb2 rfl ?_
          exact J.reti dX6_partnerOf_55 rfl rfl hW
      · have hW := hW.1 hc6
        refine J.iload_n dX6_partnerOf_42 rfl rfl ?_
        exact J.reti dX6_partnerOf_43 rfl rfl hW
set_option maxRecDepth 100000 in
set_option maxHeartbeats 4000000 in
theorem w_X6_isKept {E : Envt} {d : Nat} {Q : Pst} {h : mS} {I : mI} {L : mL} (hs : SL h) (x1 : Int32) 
    (hW : J E mX6_isKept d Q 0 0 2 [some (.ref (eB E + 65)), some (.int x1), some (.int 0)] [] h I L) :
    CT E mX6_isKept d 0 0 [.ref (eB E + 65), .int x1] h I L Q := by
  refine CT.of (by decide) [some (.ref (eB E + 65)), some (.int x1), none] rfl (Nat.le_of_ble_eq_true rfl) ?_
  refine J.iconst (v := 0) dX6_isKept_0 (by decide) ?_
  refine J.istore_n (vs' := [some (.ref (eB E + 65)), some (.int x1), some (.int 0)]) dX6_isKept_1 rfl (by decide) rfl ?_
  exact hW
set_option maxRecDepth 100000 in
set_option maxHeartbeats 4000000 in
theorem w_X6_isKept_2 {E : Envt} {d : Nat} {Q : Pst} {h : mS} {I : mI} {L : mL} (hs : SL h)    (x1 : Int32) (x2 : Int32)
    (hW : ((((I 65 4) ≤ x2) → Q (some (.int 0)) h I L) ∧ (¬ ((I 65 4) ≤ x2) → (vp_in x2 8 ∧ ((((I 76 x2.toNatClampNeg) = x1) → Q (some (.int 1)) h I L) ∧ (¬ ((I 76 x2.toNatClampNeg) = x1) → J E mX6_isKept d Q 0 0 2 [some (.ref (eB E + 65)), some (.int x1), some (.int (x2 + 1))] [] h I L)))))) :
    J E mX6_isKept d Q 0 0 2 [some (.ref (eB E + 65)), some (.int x1), some (.int x2)] [] h I L := by
  refine J.iload_n dX6_isKept_2 rfl rfl ?_
  refine J.aload_n dX6_isKept_3 rfl rfl ?_
  refine J.getI (x := I 65 4) fl_X6_58 rfl dX6_isKept_4 (lt65 hs) (kk65 hs) rfl ?_
  refine J.ic_ge 28 dX6_isKept_7 (by decide) (fun hc1 => ?_) (fun hc1 => ?_)
  · have hW := hW.1 hc1
    refine J.iconst (v := 0) dX6_isKept_28 (by decide) ?_
    exact J.reti dX6_isKept_29 rfl (bz_nar (Or.inl rfl)) hW
  · have hW := hW.2 hc1
    refine J.aload_n dX6_isKept_10 rfl rfl ?_
    refine J.getR (r := 76) fl_X6_43 rfl dX6_isKept_11 (lt65 hs) (kk65 hs) (rr65_14 hs) ?_
    refine J.iload_n dX6_isKept_14 rfl rfl ?_
    obtain ⟨hb2, hW⟩ := hW
    refine J.iald (x := I 76 x2.toNatClampNeg) dX6_isKept_15 (lt76 hs) (kk76 hs) hb2 rfl ?_
    refine J.iload_n dX6_isKept_16 rfl rfl ?_
    refine J.ic_ne 22 dX6_isKept_17 (by decide) (fun hc3 => ?_) (fun hc3 => ?_)
    · have hW := hW.2 hc3
      refine J.iinc (v := x2 + 1) (vs' := [some (.ref (eB E + 65)), some (.int x1), some (.int (x2 + 1))]) dX6_isKept_22 rfl (by rfl) (by decide) rfl ?_
      refine J.goto 2 dX6_isKept_25 (by decide) ?_
      exact hW
    · have hW := hW.1 hc3
      refine J.iconst (v := 1) dX6_isKept_20 (by decide) ?_
      exact J.reti dX6_isKept_21 rfl (bz_nar (Or.inr rfl)) hW
set_option maxRecDepth 100000 in
set_option maxHeartbeats 4000000 in
theorem w_X6_nextToAsk {E : Envt} {d : Nat} {Q : Pst} {h : mS} {I : mI} {L : mL} (hs : SL h) (x1 : Int32) 
    (hW : J E mX6_nextToAsk d Q 0 0 4 [some (.ref (eB E + 65)), some (.int x1), some (.int (-1)), some (.int 0), none] [] h I L) :
    CT E mX6_nextToAsk d 0 0 [.ref (eB E + 65), .int x1] h I L Q := by
  refine CT.of (by decide) [some (.ref (eB E + 65)), some (.int x1), none, none, none] rfl (Nat.le_of_ble_eq_true rfl) ?_
  refine J.iconst (v := (-1)) dX6_nextToAsk_0 (by decide) ?_
  refine J.istore_n (vs' := [some (.ref (eB E + 65)), some (.int x1), some (.int (-1)), none, none]) dX6_nextToAsk_1 rfl (by decide) rfl ?_
  refine J.iconst (v := 0) dX6_nextToAsk_2 (by decide) ?_
  refine J.istore_n (vs' := [some (.ref (eB E + 65)), some (.int x1), some (.int (-1)), some (.int 0), none]) dX6_nextToAsk_3 rfl (by decide) rfl ?_
  exact hW
set_option maxRecDepth 100000 in
set_option maxHeartbeats 4000000 in
theorem w_X6_nextToAsk_4 {E : Envt} {d : Nat} {Q : Pst} {h : mS} {I : mI} {L : mL} (hs : SL h)    (x1 : Int32) (x2 : Int32) (x3 : Int32)
    (hW : ((((I 65 4) ≤ x3) → Q (some (.int x2)) h I L) ∧ (¬ ((I 65 4) ≤ x3) → (vp_in ((x3 * 8) + x1) 64 ∧ ((¬ ((I 68 (((x3 * 8) + x1).toNatClampNeg)) = 0) → ((I 74 (((x3 * 8) + x1).toNatClampNeg)) = 0) → ¬ (x2 = (-1)) → vp_in ((x2 * 8) + x1) 64) ∧ (∀ y9 : Int32, y9 = (if (I 68 (((x3 * 8) + x1).toNatClampNeg)) = 0 then x2 else if (I 74 (((x3 * 8) + x1).toNatClampNeg)) = 0 then if x2 = (-1) then x3 else if (I 73 (((x3 * 8) + x1).toNatClampNeg)) ≤ (I 73 (((x2 * 8) + x1).toNatClampNeg)) then x2 else x3 else x2) → J E mX6_nextToAsk d Q 0 0 4 [some (.ref (eB E + 65)), some (.int x1), some (.int y9), some (.int (x3 + 1)), none] [] h I L)))))) :
    J E mX6_nextToAsk d Q 0 0 4 [some (.ref (eB E + 65)), some (.int x1), some (.int x2), some (.int x3), none] [] h I L := by
  refine J.iload_n dX6_nextToAsk_4 rfl rfl ?_
  refine J.aload_n dX6_nextToAsk_5 rfl rfl ?_
  refine J.getI (x := I 65 4) fl_X6_58 rfl dX6_nextToAsk_6 (lt65 hs) (kk65 hs) rfl ?_
  refine J.ic_ge 74 dX6_nextToAsk_9 (by decide) (fun hc1 => ?_) (fun hc1 => ?_)
  · have hW := hW.1 hc1
    refine J.iload_n dX6_nextToAsk_74 rfl rfl ?_
    exact J.reti dX6_nextToAsk_75 rfl rfl hW
  · have hW := hW.2 hc1
    refine J.iload_n dX6_nextToAsk_12 rfl rfl ?_
    refine J.bipush (v := 8) dX6_nextToAsk_13 (by decide) ?_
    refine J.imul dX6_nextToAsk_15 ?_
    refine J.iload_n dX6_nextToAsk_16 rfl rfl ?_
    refine J.iadd dX6_nextToAsk_17 ?_
    refine J.istore (vs' := [some (.ref (eB E + 65)), some (.int x1), some (.int x2), some (.int x3), some (.int ((x3 * 8) + x1))]) dX6_nextToAsk_18 (by decide) rfl ?_
    refine J.aload_n dX6_nextToAsk_20 rfl rfl ?_
    refine J.getR (r := 68) fl_X6_18 rfl dX6_nextToAsk_21 (lt65 hs) (kk65 hs) (rr65_6 hs) ?_
    refine J.iload dX6_nextToAsk_24 rfl ?_
    obtain ⟨hb2, hW⟩ := hW
    refine J.zald (x := I 68 (((x3 * 8) + x1).toNatClampNeg)) dX6_nextToAsk_26 (lt68 hs) (kk68 hs) hb2 rfl ?_
    obtain ⟨hq7, hW⟩ := hW
    obtain ⟨y9, hyy9⟩ : ∃ y9 : Int32, y9 = (if (I 68 (((x3 * 8) + x1).toNatClampNeg)) = 0 then x2 else if (I 74 (((x3 * 8) + x1).toNatClampNeg)) = 0 then if x2 = (-1) then x3 else if (I 73 (((x3 * 8) + x1).toNatClampNeg)) ≤ (I 73 (((x2 * 8) + x1).toNatClampNeg)) then x2 else x3 else x2) := ⟨_, rfl⟩
    have hW := hW y9 hyy9
    have hj : J E mX6_nextToAsk d Q 0 0 68 [some (.ref (eB E + 65)), some (.int x1), some (.int y9), some (.int x3), some (.int ((x3 * 8) + x1))] [] h I L := by
      refine J.iinc (v := x3 + 1) (vs' := [some (.ref (eB E + 65)), some (.int x1), some (.int y9), some (.int (x3 + 1)), some (.int ((x3 * 8) + x1))]) dX6_nextToAsk_68 rfl (by rfl) (by decide) rfl ?_
      refine J.goto 4 dX6_nextToAsk_71 (by decide) ?_
      exact J.mask [true, true, true, true, false] rfl hW
    refine J.if_eq 68 dX6_nextToAsk_27 (by decide) (fun hc3 => ?_) (fun hc3 => ?_)
    · rw [show y9 = x2 from by simp only [hyy9, eq_true hc3, if_true, if_false, bI_true, bI_false, and_true, true_and, and_false, false_and, or_true, true_or, or_false, false_or, not_true_eq_false, not_false_eq_true]] at hj
      exact hj
    · refine J.aload_n dX6_nextToAsk_30 rfl rfl ?_
      refine J.getR (r := 74) fl_X6_37 rfl dX6_nextToAsk_31 (lt65 hs) (kk65 hs) (rr65_12 hs) ?_
      refine J.iload dX6_nextToAsk_34 rfl ?_
      refine J.zald (x := I 74 (((x3 * 8) + x1).toNatClampNeg)) dX6_nextToAsk_36 (lt74 hs) (kk74 hs) hb2 rfl ?_
      refine J.if_ne 68 dX6_nextToAsk_37 (by decide) (fun hc4 => ?_) (fun hc4 => ?_)
      · rw [show y9 = x2 from by simp only [hyy9, eq_false hc3, eq_false hc4, if_true, if_false, bI_true, bI_false, and_true, true_and, and_false, false_and, or_true, true_or, or_false, false_or, not_true_eq_false, not_false_eq_true]] at hj
        exact hj
      · refine J.iload_n dX6_nextToAsk_40 rfl rfl ?_
        refine J.iconst (v := (-1)) dX6_nextToAsk_41 (by decide) ?_
        refine J.ic_eq 66 dX6_nextToAsk_42 (by decide) (fun hc5 => ?_) (fun hc5 => ?_)
        · refine J.iload_n dX6_nextToAsk_66 rfl rfl ?_
          refine J.istore_n (vs' := [some (.ref (eB E + 65)), some (.int x1), some (.int x3), some (.int x3), some (.int ((x3 * 8) + x1))]) dX6_nextToAsk_67 rfl (by decide) rfl ?_
          rw [show y9 = x3 from by simp only [hyy9, eq_false hc3, eq_true hc4, eq_true hc5, if_true, if_false, bI_true, bI_false, and_true, true_and, and_false, false_and, or_true, true_or, or_false, false_or, not_true_eq_false, not_false_eq_true]] at hj
          exact hj
        · refine J.aload_n dX6_nextToAsk_45 rfl rfl ?_
          refine J.getR (r := 73) fl_X6_34 rfl dX6_nextToAsk_46 (lt65 hs) (kk65 hs) (rr65_11 hs) ?_
          refine J.iload dX6_nextToAsk_49 rfl ?_
          refine J.iald (x := I 73 (((x3 * 8) + x1).toNatClampNeg)) dX6_nextToAsk_51 (lt73 hs) (kk73 hs) hb2 rfl ?_
          refine J.aload_n dX6_nextToAsk_52 rfl rfl ?_
          refine J.getR (r := 73) fl_X6_34 rfl dX6_nextToAsk_53 (lt65 hs) (kk65 hs) (rr65_11 hs) ?_
          refine J.iload_n dX6_nextToAsk_56 rfl rfl ?_
          refine J.bipush (v := 8) dX6_nextToAsk_57 (by decide) ?_
          refine J.imul dX6_nextToAsk_59 ?_
          refine J.iload_n dX6_nextToAsk_60 rfl rfl ?_
          refine J.iadd dX6_nextToAsk_61 ?_
          have hb6 := hq7 hc3 hc4 hc5
          refine J.iald (x := I 73 (((x2 * 8) + x1).toNatClampNeg)) dX6_nextToAsk_62 (lt73 hs) (kk73 hs) hb6 rfl ?_
          refine J.ic_le 68 dX6_nextToAsk_63 (by decide) (fun hc8 => ?_) (fun hc8 => ?_)
          · rw [show y9 = x2 from by simp only [hyy9, eq_false hc3, eq_true hc4, eq_false hc5, eq_true hc8, if_true, if_false, bI_true, bI_false, and_true, true_and, and_false, false_and, or_true, true_or, or_false, false_or, not_true_eq_false, not_false_eq_true]] at hj
            exact hj
          · refine J.iload_n dX6_nextToAsk_66 rfl rfl ?_
            refine J.istore_n (vs' := [some (.ref (eB E + 65)), some (.int x1), some (.int x3), some (.int x3), some (.int ((x3 * 8) + x1))]) dX6_nextToAsk_67 rfl (by decide) rfl ?_
            rw [show y9 = x3 from by simp only [hyy9, eq_false hc3, eq_true hc4, eq_false hc5, eq_false hc8, if_true, if_false, bI_true, bI_false, and_true, true_and, and_false, false_and, or_true, true_or, or_false, false_or, not_true_eq_false, not_false_eq_true]] at hj
            exact hj
set_option maxRecDepth 100000 in
set_option maxHeartbeats 4000000 in
theorem w_X6_hearOut {E : Envt} {d : Nat} {Q : Pst} {h : mS} {I : mI} {L : mL} (hs : SL h) (x1 : Int32) (x2 : Int32) 
    (hW : (vp_in x1 8 ∧ (∀ y2 : Int32, y2 = I 76 x1.toNatClampNeg → (((y2 = (-1)) → Q none h (uI I 76 x1.toNatClampNeg x2) L) ∧ (¬ (y2 = (-1)) → (vp_in ((x1 * 8) + x2) 64 ∧ (vp_in ((x1 * 8) + y2) 64 ∧ (∀ y6 : Int32, y6 = (I 72 (((x1 * 8) + x2).toNatClampNeg)) - (I 72 (((x1 * 8) + y2).toNatClampNeg)) → (((0 < y6) → Q none h (uI I 76 x1.toNatClampNeg x2) L) ∧ (¬ (0 < y6) → (((y6 = 0) → (((y2 ≤ x2) → Q none h I L) ∧ (¬ (y2 ≤ x2) → Q none h (uI I 76 x1.toNatClampNeg x2) L))) ∧ (¬ (y6 = 0) → Q none h I L)))))))))))) :
    CT E mX6_hearOut d 0 0 [.ref (eB E + 65), .int x1, .int x2] h I L Q := by
  refine CT.of (by decide) [some (.ref (eB E + 65)), some (.int x1), some (.int x2), none, none] rfl (Nat.le_of_ble_eq_true rfl) ?_
  refine J.aload_n dX6_hearOut_0 rfl rfl ?_
  refine J.getR (r := 76) fl_X6_43 rfl dX6_hearOut_1 (lt65 hs) (kk65 hs) (rr65_14 hs) ?_
  refine J.iload_n dX6_hearOut_4 rfl rfl ?_
  obtain ⟨hb1, hW⟩ := hW
  refine J.iald (x := I 76 x1.toNatClampNeg) dX6_hearOut_5 (lt76 hs) (kk76 hs) hb1 rfl ?_
  refine J.topi (fun y2 hyy2 => ?_)
  have hW := hW y2 hyy2
  refine J.istore_n (vs' := [some (.ref (eB E + 65)), some (.int x1), some (.int x2), some (.int y2), none]) dX6_hearOut_6 rfl (by decide) rfl ?_
  refine J.iload_n dX6_hearOut_7 rfl rfl ?_
  refine J.iconst (v := (-1)) dX6_hearOut_8 (by decide) ?_
  refine J.ic_ne 20 dX6_hearOut_9 (by decide) (fun hc3 => ?_) (fun hc3 => ?_)
  · have hW := hW.2 hc3
    refine J.aload_n dX6_hearOut_20 rfl rfl ?_
    refine J.getR (r := 72) fl_X6_31 rfl dX6_hearOut_21 (lt65 hs) (kk65 hs) (rr65_10 hs) ?_
    refine J.iload_n dX6_hearOut_24 rfl rfl ?_
    refine J.bipush (v := 8) dX6_hearOut_25 (by decide) ?_
    refine J.imul dX6_hearOut_27 ?_
    refine J.iload_n dX6_hearOut_28 rfl rfl ?_
    refine J.iadd dX6_hearOut_29 ?_
    obtain ⟨hb4, hW⟩ := hW
    refine J.iald (x := I 72 (((x1 * 8) + x2).toNatClampNeg)) dX6_hearOut_30 (lt72 hs) (kk72 hs) hb4 rfl ?_
    refine J.aload_n dX6_hearOut_31 rfl rfl ?_
    refine J.getR (r := 72) fl_X6_31 rfl dX6_hearOut_32 (lt65 hs) (kk65 hs) (rr65_10 hs) ?_
    refine J.iload_n dX6_hearOut_35 rfl rfl ?_
    refine J.bipush (v := 8) dX6_hearOut_36 (by decide) ?_
    refine J.imul dX6_hearOut_38 ?_
    refine J.iload_n dX6_hearOut_39 rfl rfl ?_
    refine J.iadd dX6_hearOut_40 ?_
    obtain ⟨hb5, hW⟩ := hW
    refine J.iald (x := I 72 (((x1 * 8) + y2).toNatClampNeg)) dX6_hearOut_41 (lt72 hs) (kk72 hs) hb5 rfl ?_
    refine J.isub dX6_hearOut_42 ?_
    refine J.topi (fun y6 hyy6 => ?_)
    have hW := hW y6 hyy6
    refine J.istore (vs' := [some (.ref (eB E + 65)), some (.int x1), some (.int x2), some (.int y2), some (.int y6)]) dX6_hearOut_43 (by decide) rfl ?_
    refine J.iload dX6_hearOut_45 rfl ?_
    refine J.if_gt 60 dX6_hearOut_47 (by decide) (fun hc7 => ?_) (fun hc7 => ?_)
    · have hW := hW.1 hc7
      refine J.aload_n dX6_hearOut_60 rfl rfl ?_
      refine J.getR (r := 76) fl_X6_43 rfl dX6_hearOut_61 (lt65 hs) (kk65 hs) (rr65_14 hs) ?_
      refine J.iload_n dX6_hearOut_64 rfl rfl ?_
      refine J.iload_n dX6_hearOut_65 rfl rfl ?_
      refine J.iast dX6_hearOut_66 (lt76 hs) (kk76 hs) hb1 ?_
      exact J.retv dX6_hearOut_67 rfl hW
    · have hW := hW.2 hc7
      refine J.iload dX6_hearOut_50 rfl ?_
      refine J.if_ne 67 dX6_hearOut_52 (by decide) (fun hc8 => ?_) (fun hc8 => ?_)
      · have hW := hW.2 hc8
        exact J.retv dX6_hearOut_67 rfl hW
      · have hW := hW.1 hc8
        refine J.iload_n dX6_hearOut_55 rfl rfl ?_
        refine J.iload_n dX6_hearOut_56 rfl rfl ?_
        refine J.ic_ge 67 dX6_hearOut_57 (by decide) (fun hc9 => ?_) (fun hc9 => ?_)
        · have hW := hW.1 hc9
          exact J.retv dX6_hearOut_67 rfl hW
        · have hW := hW.2 hc9
          refine J.aload_n dX6_hearOut_60 rfl rfl ?_
          refine J.getR (r := 76) fl_X6_43 rfl dX6_hearOut_61 (lt65 hs) (kk65 hs) (rr65_14 hs) ?_
          refine J.iload_n dX6_hearOut_64 rfl rfl ?_
          refine J.iload_n dX6_hearOut_65 rfl rfl ?_
          refine J.iast dX6_hearOut_66 (lt76 hs) (kk76 hs) hb1 ?_
          exact J.retv dX6_hearOut_67 rfl hW
  · have hW := hW.1 hc3
    refine J.aload_n dX6_hearOut_12 rfl rfl ?_
    refine J.getR (r := 76) fl_X6_43 rfl dX6_hearOut_13 (lt65 hs) (kk65 hs) (rr65_14 hs) ?_
    refine J.iload_n dX6_hearOut_16 rfl rfl ?_
    refine J.iload_n dX6_hearOut_17 rfl rfl ?_
    refine J.iast dX6_hearOut_18 (lt76 hs) (kk76 hs) hb1 ?_
    exact J.retv dX6_hearOut_19 rfl hW
set_option maxRecDepth 100000 in
set_option maxHeartbeats 4000000 in
theorem w_X6_askAround {E : Envt} {d : Nat} {Q : Pst} {h : mS} {I : mI} {L : mL} (hs : SL h)  
    (hW : J E mX6_askAround (d + 1) Q 0 0 4 [some (.ref (eB E + 65)), some (.int 0), some (.int 0), none] [] h I L) :
    CT E mX6_askAround (d + 1) 0 0 [.ref (eB E + 65)] h I L Q := by
  refine CT.of (by decide) [some (.ref (eB E + 65)), none, none, none] rfl (Nat.le_of_ble_eq_true rfl) ?_
  refine J.iconst (v := 0) dX6_askAround_0 (by decide) ?_
  refine J.istore_n (vs' := [some (.ref (eB E + 65)), some (.int 0), none, none]) dX6_askAround_1 rfl (by decide) rfl ?_
  refine J.iconst (v := 0) dX6_askAround_2 (by decide) ?_
  refine J.istore_n (vs' := [some (.ref (eB E + 65)), some (.int 0), some (.int 0), none]) dX6_askAround_3 rfl (by decide) rfl ?_
  exact hW
set_option maxRecDepth 100000 in
set_option maxHeartbeats 4000000 in
theorem w_X6_askAround_4 {E : Envt} {d : Nat} {Q : Pst} {h : mS} {I : mI} {L : mL} (hs : SL h)    (x1 : Int32) (x2 : Int32)
    (hW : ((((I 65 5) ≤ x2) → (bz x1 ∧ Q (some (.int x1)) h I L)) ∧ (¬ ((I 65 5) ≤ x2) → (CT E mX6_isKept d 0 0 [.ref (eB E + 65), .int x2] h I L (qi h L fun r3 I2 => (((r3 = 0) → (CT E mX6_nextToAsk d 0 0 [.ref (eB E + 65), .int x2] h I2 L (qi h L fun r6 I5 => (((r6 = (-1)) → J E mX6_askAround (d + 1) Q 0 0 4 [some (.ref (eB E + 65)), some (.int x1), some (.int (x2 + 1)), none] [] h I5 L) ∧ (¬ (r6 = (-1)) → (vp_in ((r6 * 8) + x2) 64 ∧ (CT E mX6_hearOut d 0 0 [.ref (eB E + 65), .int r6, .int x2] h (uI I5 74 (((r6 * 8) + x2).toNatClampNeg) 1) L (qv h L fun I9 => J E mX6_askAround (d + 1) Q 0 0 4 [some (.ref (eB E + 65)), some (.int 1), some (.int (x2 + 1)), none] [] h I9 L)))))))) ∧ (¬ (r3 = 0) → J E mX6_askAround (d + 1) Q 0 0 4 [some (.ref (eB E + 65)), some (.int x1), some (.int (x2 + 1)), none] [] h I2 L))))))) :
    J E mX6_askAround (d + 1) Q 0 0 4 [some (.ref (eB E + 65)), some (.int x1), some (.int x2), none] [] h I L := by
  refine J.iload_n dX6_askAround_4 rfl rfl ?_
  refine J.aload_n dX6_askAround_5 rfl rfl ?_
  refine J.getI (x := I 65 5) fl_X6_62 rfl dX6_askAround_6 (lt65 hs) (kk65 hs) rfl ?_
  refine J.ic_ge 61 dX6_askAround_9 (by decide) (fun hc1 => ?_) (fun hc1 => ?_)
  · have hW := hW.1 hc1
    refine J.iload_n dX6_askAround_61 rfl rfl ?_
    obtain ⟨hz, hW⟩ := hW
    exact J.reti dX6_askAround_62 rfl (bz_nar hz) hW
  · have hW := hW.2 hc1
    refine J.aload_n dX6_askAround_12 rfl rfl ?_
    refine J.iload_n dX6_askAround_13 rfl rfl ?_
    refine J.callV (M' := mX6_isKept) (index := 132) (bc := 0) (bs := 0) (bc' := 0) (bs' := 0) (st := []) [.int x2] ml_X6_132 cv_X6_isKept dX6_askAround_14 (lt65 hs) (kk65 hs) (by decide) rfl rfl rfl rfl (Nat.le_of_ble_eq_true rfl) (kqi hW (fun r3 I2 hW => ?_))
    refine J.if_eq 24 dX6_askAround_17 (by decide) (fun hc4 => ?_) (fun hc4 => ?_)
    · have hW := hW.1 hc4
      refine J.aload_n dX6_askAround_24 rfl rfl ?_
      refine J.iload_n dX6_askAround_25 rfl rfl ?_
      refine J.callV (M' := mX6_nextToAsk) (index := 135) (bc := 0) (bs := 0) (bc' := 0) (bs' := 0) (st := []) [.int x2] ml_X6_135 cv_X6_nextToAsk dX6_askAround_26 (lt65 hs) (kk65 hs) (by decide) rfl rfl rfl rfl (Nat.le_of_ble_eq_true rfl) (kqi hW (fun r6 I5 hW => ?_))
      refine J.istore_n (vs' := [some (.ref (eB E + 65)), some (.int x1), some (.int x2), some (.int r6)]) dX6_askAround_29 rfl (by decide) rfl ?_
      refine J.iload_n dX6_askAround_30 rfl rfl ?_
      refine J.iconst (v := (-1)) dX6_askAround_31 (by decide) ?_
      refine J.ic_eq 55 dX6_askAround_32 (by decide) (fun hc7 => ?_) (fun hc7 => ?_)
      · have hW := hW.1 hc7
        refine J.iinc (v := x2 + 1) (vs' := [some (.ref (eB E + 65)), some (.int x1), some (.int (x2 + 1)), some (.int r6)]) dX6_askAround_55 rfl (by rfl) (by decide) rfl ?_
        refine J.goto 4 dX6_askAround_58 (by decide) ?_
        exact J.mask [true, true, true, false] rfl hW
      · have hW := hW.2 hc7
        refine J.iconst (v := 1) dX6_askAround_35 (by decide) ?_
        refine J.istore_n (vs' := [some (.ref (eB E + 65)), some (.int 1), some (.int x2), some (.int r6)]) dX6_askAround_36 rfl (by decide) rfl ?_
        refine J.aload_n dX6_askAround_37 rfl rfl ?_
        refine J.getR (r := 74) fl_X6_37 rfl dX6_askAround_38 (lt65 hs) (kk65 hs) (rr65_12 hs) ?_
        refine J.iload_n dX6_askAround_41 rfl rfl ?_
        refine J.bipush (v := 8) dX6_askAround_42 (by decide) ?_
        refine J.imul dX6_askAround_44 ?_
        refine J.iload_n dX6_askAround_45 rfl rfl ?_
        refine J.iadd dX6_askAround_46 ?_
        refine J.iconst (v := 1) dX6_askAround_47 (by decide) ?_
        obtain ⟨hb8, hW⟩ := hW
        refine J.zast dX6_askAround_48 (lt74 hs) (kk74 hs) hb8 (Or.inr rfl) ?_
        refine J.aload_n dX6_askAround_49 rfl rfl ?_
        refine J.iload_n dX6_askAround_50 rfl rfl ?_
        refine J.iload_n dX6_askAround_51 rfl rfl ?_
        refine J.callV (M' := mX6_hearOut) (index := 138) (bc := 0) (bs := 0) (bc' := 0) (bs' := 0) (st := []) [.int r6, .int x2] ml_X6_138 cv_X6_hearOut dX6_askAround_52 (lt65 hs) (kk65 hs) (by decide) rfl rfl rfl rfl (Nat.le_of_ble_eq_true rfl) (kqv hW (fun I9 hW => ?_))
        refine J.iinc (v := x2 + 1) (vs' := [some (.ref (eB E + 65)), some (.int 1), some (.int (x2 + 1)), some (.int r6)]) dX6_askAround_55 rfl (by rfl) (by decide) rfl ?_
        refine J.goto 4 dX6_askAround_58 (by decide) ?_
        exact J.mask [true, true, true, false] rfl hW
    · have hW := hW.2 hc4
      refine J.iconst (v := (-1)) dX6_askAround_20 (by decide) ?_
      refine J.goto 29 dX6_askAround_21 (by decide) ?_
      refine J.istore_n (vs' := [some (.ref (eB E + 65)), some (.int x1), some (.int x2), some (.int (-1))]) dX6_askAround_29 rfl (by decide) rfl ?_
      refine J.iload_n dX6_askAround_30 rfl rfl ?_
      refine J.iconst (v := (-1)) dX6_askAround_31 (by decide) ?_
      refine J.ic_eq 55 dX6_askAround_32 (by decide) (fun _ => ?_) (fun hc => absurd hc (by decide))
      refine J.iinc (v := x2 + 1) (vs' := [some (.ref (eB E + 65)), some (.int x1), some (.int (x2 + 1)), some (.int (-1))]) dX6_askAround_55 rfl (by rfl) (by decide) rfl ?_
      refine J.goto 4 dX6_askAround_58 (by decide) ?_
      exact J.mask [true, true, true, false] rfl hW
set_option maxRecDepth 100000 in
set_option maxHeartbeats 4000000 in
theorem w_X6_settleStable {E : Envt} {d : Nat} {Q : Pst} {h : mS} {I : mI} {L : mL} (hs : SL h)  
    (hW : (CT E mJ7_fill_53178 (d + 1) 0 0 [.ref (eB E + 76), .int (-1)] h I L (qv h L fun I1 => J E mX6_settleStable (d + 2) Q 0 0 10 [some (.ref (eB E + 65)), some (.int 0), none] [] h I1 L))) :
    CT E mX6_settleStable (d + 2) 0 0 [.ref (eB E + 65)] h I L Q := by
  refine CT.of (by decide) [some (.ref (eB E + 65)), none, none] rfl (Nat.le_of_ble_eq_true rfl) ?_
  refine J.aload_n dX6_settleStable_0 rfl rfl ?_
  refine J.getR (r := 76) fl_X6_43 rfl dX6_settleStable_1 (lt65 hs) (kk65 hs) (rr65_14 hs) ?_
  refine J.iconst (v := (-1)) dX6_settleStable_4 (by decide) ?_
  refine J.callS (M' := mJ7_fill_53178) (index := 97) (bc := 0) (bs := 0) (bc' := 0) (bs' := 0) (st := []) [.ref (eB E + 76), .int (-1)] ml_X6_97 cv_J7_fill_53178 dX6_settleStable_5 rfl rfl (Nat.le_of_ble_eq_true rfl) (kqv hW (fun I1 hW => ?_))
  refine J.iconst (v := 0) dX6_settleStable_8 (by decide) ?_
  refine J.istore_n (vs' := [some (.ref (eB E + 65)), some (.int 0), none]) dX6_settleStable_9 rfl (by decide) rfl ?_
  exact hW
set_option maxRecDepth 100000 in
set_option maxHeartbeats 4000000 in
theorem w_X6_settleStable_10 {E : Envt} {d : Nat} {Q : Pst} {h : mS} {I : mI} {L : mL} (hs : SL h)    (x1 : Int32)
    (hW : (((64 ≤ x1) → J E mX6_settleStable (d + 2) Q 0 0 36 [some (.ref (eB E + 65)), some (.int 1), some (.int 0)] [] h I L) ∧ (¬ (64 ≤ x1) → (vp_in x1 64 ∧ J E mX6_settleStable (d + 2) Q 0 0 10 [some (.ref (eB E + 65)), some (.int (x1 + 1)), none] [] h (uI I 74 x1.toNatClampNeg 0) L)))) :
    J E mX6_settleStable (d + 2) Q 0 0 10 [some (.ref (eB E + 65)), some (.int x1), none] [] h I L := by
  refine J.iload_n dX6_settleStable_10 rfl rfl ?_
  refine J.aload_n dX6_settleStable_11 rfl rfl ?_
  refine J.getR (r := 74) fl_X6_37 rfl dX6_settleStable_12 (lt65 hs) (kk65 hs) (rr65_12 hs) ?_
  refine J.alen (v := 64) dX6_settleStable_15 (lt74 hs) (kk74 hs) (by decide) (by decide) ?_
  refine J.ic_ge 32 dX6_settleStable_16 (by decide) (fun hc1 => ?_) (fun hc1 => ?_)
  · have hW := hW.1 hc1
    refine J.iconst (v := 1) dX6_settleStable_32 (by decide) ?_
    refine J.istore_n (vs' := [some (.ref (eB E + 65)), some (.int 1), none]) dX6_settleStable_33 rfl (by decide) rfl ?_
    refine J.iconst (v := 0) dX6_settleStable_34 (by decide) ?_
    refine J.istore_n (vs' := [some (.ref (eB E + 65)), some (.int 1), some (.int 0)]) dX6_settleStable_35 rfl (by decide) rfl ?_
    exact hW
  · have hW := hW.2 hc1
    refine J.aload_n dX6_settleStable_19 rfl rfl ?_
    refine J.getR (r := 74) fl_X6_37 rfl dX6_settleStable_20 (lt65 hs) (kk65 hs) (rr65_12 hs) ?_
    refine J.iload_n dX6_settleStable_23 rfl rfl ?_
    refine J.iconst (v := 0) dX6_settleStable_24 (by decide) ?_
    obtain ⟨hb2, hW⟩ := hW
    refine J.zast dX6_settleStable_25 (lt74 hs) (kk74 hs) hb2 (Or.inl rfl) ?_
    refine J.iinc (v := x1 + 1) (vs' := [some (.ref (eB E + 65)), some (.int (x1 + 1)), none]) dX6_settleStable_26 rfl (by rfl) (by decide) rfl ?_
    refine J.goto 10 dX6_settleStable_29 (by decide) ?_
    exact hW
set_option maxRecDepth 100000 in
set_option maxHeartbeats 4000000 in
theorem w_X6_settleStable_36 {E : Envt} {d : Nat} {Q : Pst} {h : mS} {I : mI} {L : mL} (hs : SL h)    (x1 : Int32) (x2 : Int32)
    (hW : (((64 < x2) → Q none h I L) ∧ (¬ (64 < x2) → (((x1 = 0) → Q none h I L) ∧ (¬ (x1 = 0) → (CT E mX6_askAround (d + 1) 0 0 [.ref (eB E + 65)] h I L (qi h L fun r4 I3 => J E mX6_settleStable (d + 2) Q 0 0 36 [some (.ref (eB E + 65)), some (.int r4), some (.int (x2 + 1))] [] h I3 L))))))) :
    J E mX6_settleStable (d + 2) Q 0 0 36 [some (.ref (eB E + 65)), some (.int x1), some (.int x2)] [] h I L := by
  refine J.iload_n dX6_settleStable_36 rfl rfl ?_
  refine J.bipush (v := 64) dX6_settleStable_37 (by decide) ?_
  refine J.ic_gt 57 dX6_settleStable_39 (by decide) (fun hc1 => ?_) (fun hc1 => ?_)
  · have hW := hW.1 hc1
    exact J.retv dX6_settleStable_57 rfl hW
  · have hW := hW.2 hc1
    refine J.iload_n dX6_settleStable_42 rfl rfl ?_
    refine J.if_eq 57 dX6_settleStable_43 (by decide) (fun hc2 => ?_) (fun hc2 => ?_)
    · have hW := hW.1 hc2
      exact J.retv dX6_settleStable_57 rfl hW
    · have hW := hW.2 hc2
      refine J.aload_n dX6_settleStable_46 rfl rfl ?_
      refine J.callV (M' := mX6_askAround) (index := 125) (bc := 0) (bs := 0) (bc' := 0) (bs' := 0) (st := []) [] ml_X6_125 cv_X6_askAround dX6_settleStable_47 (lt65 hs) (kk65 hs) (by decide) rfl rfl rfl rfl (Nat.le_of_ble_eq_true rfl) (kqi hW (fun r4 I3 hW => ?_))
      refine J.istore_n (vs' := [some (.ref (eB E + 65)), some (.int r4), some (.int x2)]) dX6_settleStable_50 rfl (by decide) rfl ?_
      refine J.iinc (v := x2 + 1) (vs' := [some (.ref (eB E + 65)), some (.int r4), some (.int (x2 + 1))]) dX6_settleStable_51 rfl (by rfl) (by decide) rfl ?_
      refine J.goto 36 dX6_settleStable_54 (by decide) ?_
      exact hW
set_option maxRecDepth 100000 in
set_option maxHeartbeats 4000000 in
theorem w_X6_askLikings {E : Envt} {d : Nat} {Q : Pst} {h : mS} {I : mI} {L : mL} (hs : SL h)  
    (hW : J E mX6_askLikings (d + 5) Q 0 0 2 [some (.ref (eB E + 65)), some (.int 0), none, none] [] h I L) :
    CT E mX6_askLikings (d + 5) 0 0 [.ref (eB E + 65)] h I L Q := by
  refine CT.of (by decide) [some (.ref (eB E + 65)), none, none, none] rfl (Nat.le_of_ble_eq_true rfl) ?_
  refine J.iconst (v := 0) dX6_askLikings_0 (by decide) ?_
  refine J.istore_n (vs' := [some (.ref (eB E + 65)), some (.int 0), none, none]) dX6_askLikings_1 rfl (by decide) rfl ?_
  exact hW
set_option maxRecDepth 100000 in
set_option maxHeartbeats 4000000 in
theorem w_X6_askLikings_2 {E : Envt} {d : Nat} {Q : Pst} {h : mS} {I : mI} {L : mL} (hs : SL h)    (x1 : Int32)
    (hW : ((((I 65 4) ≤ x1) → Q none h I L) ∧ (¬ ((I 65 4) ≤ x1) → J E mX6_askLikings (d + 5) Q 0 0 12 [some (.ref (eB E + 65)), some (.int x1), some (.int 0), none] [] h I L))) :
    J E mX6_askLikings (d + 5) Q 0 0 2 [some (.ref (eB E + 65)), some (.int x1), none, none] [] h I L := by
  refine J.iload_n dX6_askLikings_2 rfl rfl ?_
  refine J.aload_n dX6_askLikings_3 rfl rfl ?_
  refine J.getI (x := I 65 4) fl_X6_58 rfl dX6_askLikings_4 (lt65 hs) (kk65 hs) rfl ?_
  refine J.ic_ge 98 dX6_askLikings_7 (by decide) (fun hc1 => ?_) (fun hc1 => ?_)
  · have hW := hW.1 hc1
    exact J.retv dX6_askLikings_98 rfl hW
  · have hW := hW.2 hc1
    refine J.iconst (v := 0) dX6_askLikings_10 (by decide) ?_
    refine J.istore_n (vs' := [some (.ref (eB E + 65)), some (.int x1), some (.int 0), none]) dX6_askLikings_11 rfl (by decide) rfl ?_
    exact hW
set_option maxRecDepth 100000 in
set_option maxHeartbeats 4000000 in
theorem w_X6_askLikings_12 {E : Envt} {d : Nat} {Q : Pst} {h : mS} {I : mI} {L : mL} (hs : SL h)    (x1 : Int32) (x2 : Int32)
    (hW : ((((I 65 5) ≤ x2) → J E mX6_askLikings (d + 5) Q 0 0 2 [some (.ref (eB E + 65)), some (.int (x1 + 1)), none, none] [] h I L) ∧ (¬ ((I 65 5) ≤ x2) → (vp_in ((x1 * 8) + x2) 64 ∧ ((((I 68 (((x1 * 8) + x2).toNatClampNeg)) = 0) → J E mX6_askLikings (d + 5) Q 0 0 12 [some (.ref (eB E + 65)), some (.int x1), some (.int (x2 + 1)), none] [] h I L) ∧ (¬ ((I 68 (((x1 * 8) + x2).toNatClampNeg)) = 0) → (vp_in x1 8 ∧ (vp_in x2 8 ∧ (CT E mX2_likes (d + 4) 0 0 [.ref (eB E + 63), .int (I 66 x1.toNatClampNeg), .int (I 67 x2.toNatClampNeg)] h I L (qi h L fun r7 I6 => (CT E mX2_likes (d + 4) 0 0 [.ref (eB E + 63), .int (I6 67 x2.toNatClampNeg), .int (I6 66 x1.toNatClampNeg)] h (uI I6 72 (((x1 * 8) + x2).toNatClampNeg) r7) L (qi h L fun r9 I8 => J E mX6_askLikings (d + 5) Q 0 0 12 [some (.ref (eB E + 65)), some (.int x1), some (.int (x2 + 1)), none] [] h (uI I8 73 (((x1 * 8) + x2).toNatClampNeg) r9) L)))))))))))) :
    J E mX6_askLikings (d + 5) Q 0 0 12 [some (.ref (eB E + 65)), some (.int x1), some (.int x2), none] [] h I L := by
  refine J.iload_n dX6_askLikings_12 rfl rfl ?_
  refine J.aload_n dX6_askLikings_13 rfl rfl ?_
  refine J.getI (x := I 65 5) fl_X6_62 rfl dX6_askLikings_14 (lt65 hs) (kk65 hs) rfl ?_
  refine J.ic_ge 92 dX6_askLikings_17 (by decide) (fun hc1 => ?_) (fun hc1 => ?_)
  · have hW := hW.1 hc1
    refine J.iinc (v := x1 + 1) (vs' := [some (.ref (eB E + 65)), some (.int (x1 + 1)), some (.int x2), none]) dX6_askLikings_92 rfl (by rfl) (by decide) rfl ?_
    refine J.goto 2 dX6_askLikings_95 (by decide) ?_
    exact J.mask [true, true, false, false] rfl hW
  · have hW := hW.2 hc1
    refine J.iload_n dX6_askLikings_20 rfl rfl ?_
    refine J.bipush (v := 8) dX6_askLikings_21 (by decide) ?_
    refine J.imul dX6_askLikings_23 ?_
    refine J.iload_n dX6_askLikings_24 rfl rfl ?_
    refine J.iadd dX6_askLikings_25 ?_
    refine J.istore_n (vs' := [some (.ref (eB E + 65)), some (.int x1), some (.int x2), some (.int ((x1 * 8) + x2))]) dX6_askLikings_26 rfl (by decide) rfl ?_
    refine J.aload_n dX6_askLikings_27 rfl rfl ?_
    refine J.getR (r := 68) fl_X6_18 rfl dX6_askLikings_28 (lt65 hs) (kk65 hs) (rr65_6 hs) ?_
    refine J.iload_n dX6_askLikings_31 rfl rfl ?_
    obtain ⟨hb2, hW⟩ := hW
    refine J.zald (x := I 68 (((x1 * 8) + x2).toNatClampNeg)) dX6_askLikings_32 (lt68 hs) (kk68 hs) hb2 rfl ?_
    refine J.if_eq 86 dX6_askLikings_33 (by decide) (fun hc3 => ?_) (fun hc3 => ?_)
    · have hW := hW.1 hc3
      refine J.iinc (v := x2 + 1) (vs' := [some (.ref (eB E + 65)), some (.int x1), some (.int (x2 + 1)), some (.int ((x1 * 8) + x2))]) dX6_askLikings_86 rfl (by rfl) (by decide) rfl ?_
      refine J.goto 12 dX6_askLikings_89 (by decide) ?_
      exact J.mask [true, true, true, false] rfl hW
    · have hW := hW.2 hc3
      refine J.aload_n dX6_askLikings_36 rfl rfl ?_
      refine J.getR (r := 72) fl_X6_31 rfl dX6_askLikings_37 (lt65 hs) (kk65 hs) (rr65_10 hs) ?_
      refine J.iload_n dX6_askLikings_40 rfl rfl ?_
      refine J.aload_n dX6_askLikings_41 rfl rfl ?_
      refine J.getR (r := 63) fl_X6_50 rfl dX6_askLikings_42 (lt65 hs) (kk65 hs) (rr65_1 hs) ?_
      refine J.aload_n dX6_askLikings_45 rfl rfl ?_
      refine J.getR (r := 66) fl_X6_9 rfl dX6_askLikings_46 (lt65 hs) (kk65 hs) (rr65_2 hs) ?_
      refine J.iload_n dX6_askLikings_49 rfl rfl ?_
      obtain ⟨hb4, hW⟩ := hW
      refine J.iald (x := I 66 x1.toNatClampNeg) dX6_askLikings_50 (lt66 hs) (kk66 hs) hb4 rfl ?_
      refine J.aload_n dX6_askLikings_51 rfl rfl ?_
      refine J.getR (r := 67) fl_X6_15 rfl dX6_askLikings_52 (lt65 hs) (kk65 hs) (rr65_3 hs) ?_
      refine J.iload_n dX6_askLikings_55 rfl rfl ?_
      obtain ⟨hb5, hW⟩ := hW
      refine J.iald (x := I 67 x2.toNatClampNeg) dX6_askLikings_56 (lt67 hs) (kk67 hs) hb5 rfl ?_
      refine J.callV (M' := mX2_likes) (index := 129) (bc := 0) (bs := 0) (bc' := 0) (bs' := 0) (st := [.int ((x1 * 8) + x2), .ref (eB E + 72)]) [.int (I 66 x1.toNatClampNeg), .int (I 67 x2.toNatClampNeg)] ml_X6_129 cv_X2_likes dX6_askLikings_57 (lt63 hs) (kk63 hs) (by decide) rfl rfl rfl rfl (Nat.le_of_ble_eq_true rfl) (kqi hW (fun r7 I6 hW => ?_))
      refine J.iast dX6_askLikings_60 (lt72 hs) (kk72 hs) hb2 ?_
      refine J.aload_n dX6_askLikings_61 rfl rfl ?_
      refine J.getR (r := 73) fl_X6_34 rfl dX6_askLikings_62 (lt65 hs) (kk65 hs) (rr65_11 hs) ?_
      refine J.iload_n dX6_askLikings_65 rfl rfl ?_
      refine J.aload_n dX6_askLikings_66 rfl rfl ?_
      refine J.getR (r := 63) fl_X6_50 rfl dX6_askLikings_67 (lt65 hs) (kk65 hs) (rr65_1 hs) ?_
      refine J.aload_n dX6_askLikings_70 rfl rfl ?_
      refine J.getR (r := 67) fl_X6_15 rfl dX6_askLikings_71 (lt65 hs) (kk65 hs) (rr65_3 hs) ?_
      refine J.iload_n dX6_askLikings_74 rfl rfl ?_
      refine J.iald (x := I6 67 x2.toNatClampNeg) dX6_askLikings_75 (lt67 hs) (kk67 hs) hb5 rfl ?_
      refine J.aload_n dX6_askLikings_76 rfl rfl ?_
      refine J.getR (r := 66) fl_X6_9 rfl dX6_askLikings_77 (lt65 hs) (kk65 hs) (rr65_2 hs) ?_
      refine J.iload_n dX6_askLikings_80 rfl rfl ?_
      refine J.iald (x := I6 66 x1.toNatClampNeg) dX6_askLikings_81 (lt66 hs) (kk66 hs) hb4 rfl ?_
      refine J.callV (M' := mX2_likes) (index := 129) (bc := 0) (bs := 0) (bc' := 0) (bs' := 0) (st := [.int ((x1 * 8) + x2), .ref (eB E + 73)]) [.int (I6 67 x2.toNatClampNeg), .int (I6 66 x1.toNatClampNeg)] ml_X6_129 cv_X2_likes dX6_askLikings_82 (lt63 hs) (kk63 hs) (by decide) rfl rfl rfl rfl (Nat.le_of_ble_eq_true rfl) (kqi hW (fun r9 I8 hW => ?_))
      refine J.iast dX6_askLikings_85 (lt73 hs) (kk73 hs) hb2 ?_
      refine J.iinc (v := x2 + 1) (vs' := [some (.ref (eB E + 65)), some (.int x1), some (.int (x2 + 1)), some (.int ((x1 * 8) + x2))]) dX6_askLikings_86 rfl (by rfl) (by decide) rfl ?_
      refine J.goto 12 dX6_askLikings_89 (by decide) ?_
      exact J.mask [true, true, true, false] rfl hW
