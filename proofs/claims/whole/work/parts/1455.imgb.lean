set_option maxRecDepth 100000 in
set_option maxHeartbeats 4000000 in
theorem wb_X11_image {E : Envt} {d bc bs : Nat} {Q : Pst} {h : mS} {I : mI} {L : mL} (hs : SL h) (x1 : Int32) 
    (hW : (((¬ (x1 < 0) ∧ (¬ (2 < x1))) → (vp_in x1 3 ∧ ((h.2.1 46 x1.toNatClampNeg = none → J E mX11_image (d + 4) Q bc bs 22 [some (.ref (eB E + 0)), some (.int x1), some (.null)] [] h I L) ∧ (∀ t6 : Nat, h.2.1 46 x1.toNatClampNeg = some t6 → J E mX11_image (d + 4) Q bc bs 37 [some (.ref (eB E + 0)), some (.int x1), some (.ref (eB E + t6))] [] h I L)))) ∧ (¬ (¬ (x1 < 0) ∧ (¬ (2 < x1))) → Q (some (.int 0)) h I L))) :
    CT E mX11_image (d + 4) bc bs [.ref (eB E + 0), .int x1] h I L Q := by
  refine CT.of (by decide) [some (.ref (eB E + 0)), some (.int x1), none] rfl (Nat.le_of_ble_eq_true rfl) ?_
  refine J.iload_n dX11_image_0 rfl rfl ?_
  refine J.iconst (v := 0) dX11_image_1 (by decide) ?_
  refine J.iconst (v := 2) dX11_image_2 (by decide) ?_
  refine J.callS (M' := mX11_within) (index := 63) (bc := bc) (bs := bs) (bc' := 0) (bs' := 0) (st := []) [.int x1, .int 0, .int 2] ml_X11_63 cv_X11_within dX11_image_3 rfl rfl (Nat.le_of_ble_eq_true rfl) (kqi (w_X11_within (d := d + 3) (Q := qi h L (fun v I' => I' = I ∧ v = bI (¬ (x1 < 0) ∧ (¬ (2 < x1))))) hs x1 0 2 ⟨rfl, rfl, _, rfl, rfl, rfl⟩) (fun v1 I2 hv => ?_))
  rw [hv.1, hv.2]
  refine J.if_ne 11 dX11_image_6 (by decide) (fun hc3 => ?_) (fun hc3 => ?_)
  · have hc3 := bI_n0.mp hc3
    have hW := hW.1 hc3
    refine J.aload_n dX11_image_11 rfl rfl ?_
    refine J.getR (r := 46) fl_X11_16 rfl dX11_image_12 (lt0 hs) (kk0 hs) (rr0_1 hs) ?_
    refine J.iload_n dX11_image_15 rfl rfl ?_
    obtain ⟨hb4, hW⟩ := hW
    refine J.aald (v := rlf (eB E) (h.2.1 46 x1.toNatClampNeg)) dX11_image_16 (lt46 hs) (kk46 hs) (by decide) hb4 rfl ?_
    rcases ho5 : h.2.1 46 x1.toNatClampNeg with _ | t6
    · have hW := hW.1 ho5
      rw [rlf_none]
      refine J.astore_nN (vs' := [some (.ref (eB E + 0)), some (.int x1), some (.null)]) dX11_image_17 rfl (by decide) rfl ?_
      refine J.aload_nN dX11_image_18 rfl rfl ?_
      refine J.ifnonnullN dX11_image_19 ?_
      exact hW
    · have hW := hW.2 t6 ho5
      rw [rlf_some]
      refine J.astore_n (vs' := [some (.ref (eB E + 0)), some (.int x1), some (.ref (eB E + t6))]) dX11_image_17 rfl (by decide) rfl ?_
      refine J.aload_n dX11_image_18 rfl rfl ?_
      refine J.ifnonnull 37 dX11_image_19 (by decide) ?_
      exact hW
  · have hc3 := bI_0.mp hc3
    have hW := hW.2 hc3
    refine J.iconst (v := 0) dX11_image_9 (by decide) ?_
    exact J.reti dX11_image_10 rfl (bz_nar (Or.inl rfl)) hW
