/-! update: feed -/
noncomputable def stV (V : mI) (z : Int32) : mI := uI (uI V 84 (cT V) z) 85 0 (V 85 0 + 1)
noncomputable def by_ (x : Int32) (s : Int32) : Int32 := (x >>> (s &&& 31)).toInt8.toInt32
theorem by_r (x s : Int32) : -128 ≤ (by_ x s).toInt ∧ (by_ x s).toInt ≤ 127 := by
  have := fb_byte_rng (x >>> (s &&& 31))
  unfold by_
  omega
noncomputable def wrV (V : mI) (x : Int32) : mI := stV (stV (stV (stV V (by_ x 24)) (by_ x 16)) (by_ x 8)) (by_ x 0)
theorem st_T {V : mI} {z : Int32} (w : WfS V) (h : cT V < 500) : cT (stV V z) = cT V + 1 ∧ stV V z 85 0 = nI (cT V + 1) := by
  have e : stV V z 85 0 = nI (cT V + 1) := by unfold stV; rw [uI_eq, w.t, nI_1]
  refine ⟨?_, e⟩
  have : (stV V z 85 0).toNatClampNeg = cT V + 1 := by rw [e, nI_clamp (by omega)]
  exact this
theorem st_o {V : mI} {z : Int32} {a : Nat} (h1 : a ≠ 84) (h2 : a ≠ 85) : stV V z a = V a := by unfold stV; rw [uI_ne h2, uI_ne h1]
theorem st_wf {V : mI} {z : Int32} (w : WfS V) (h : cT V < 500) (hz : -128 ≤ z.toInt ∧ z.toInt ≤ 127) : WfS (stV V z) := by
  obtain ⟨e1, e2⟩ := st_T (z := z) w h
  have ey : cY (stV V z) = cY V := by unfold cY; rw [st_o (by decide) (by decide)]
  refine ⟨by rw [ey, st_o (by decide) (by decide)]; exact w.y, by rw [ey]; exact w.y3, by rw [e1]; exact e2, by omega, fun i hi => ?_⟩
  unfold stV
  rw [uI_ne (by decide)]
  by_cases e : i = cT V
  · rw [e, uI_eq]; exact hz
  · rw [uI_nj e]; exact w.tb i (by omega)
section FE
variable {E : Envt} {d : Nat} {Q : Pst} {h : mS} {I I' V V' : mI} {L : mL}
theorem st_c (q : CQ h I V) {z : Int32} (hT : cT V < 500) (hz : -128 ≤ z.toInt ∧ z.toInt ≤ 127) : CQ h (uI (uI I 37 (cT V) z) 1 7 (nI (cT V + 1))) (stV V z) := by
  obtain ⟨e1, e2⟩ := st_T (z := z) q.w.S hT
  refine q.S' (fun a h1 h2 => by rw [uI_ne h1, uI_ne h2]) (fun a ha => st_o (by omega) (by omega)) ⟨?_, ?_, ?_, ?_, ?_⟩ (st_wf q.w.S hT hz)
  · rw [uI_nj (by decide), uI_ne (by decide), st_o (by decide) (by decide)]; exact bS_y q.b
  · rw [uI_eq, e2]
  · rw [uI_nj (by decide), uI_ne (by decide), st_o (by decide) (by decide)]; exact bS_f q.b
  · rw [uI_nj (by decide), uI_ne (by decide), st_o (by decide) (by decide)]; exact bS_p q.b
  · intro i hi
    rw [e1] at hi
    unfold stV
    simp (disch := decide) only [uI_ne, uI_at]
    unfold upd
    by_cases e : i = cT V
    · rw [if_pos e, if_pos e]
    · rw [if_neg e, if_neg e]; exact bS_tape q.b i (by omega)
theorem c_wr1 (q : CQ h I V) {x s s' : Int32} (hT : cT V < 500) (hs : ¬ s < 0) (e : s + (-8) = s') (hQ : ∀ I', UC I I' → CQ h I' (stV V (by_ x s)) → (J E mX0_write d Q 0 0 3 [some (.ref (eB E + 1)), some (.int x), some (.int s')] [] h I' L)) : (J E mX0_write d Q 0 0 3 [some (.ref (eB E + 1)), some (.int x), some (.int s)] [] h I L) := by
  have et := q.w.S.t
  refine w_X0_write_3 q.s _ _ (br_f hs ?_)
  rw [bS_t q.b, et, nI_clamp (by omega), nI_1, e]
  exact br_f (nI_ge hT (by decide)) ⟨vp_in_nI hT (by decide), hQ _ (UC.tr UC.u UC.u) (st_c q hT (by_r _ _))⟩
theorem c_write (q : CQ h I V) {x : Int32} (hT : cT V ≤ 496) (hQ : ∀ I', UC I I' → CQ h I' (wrV V x) → Q none h I' L) : (CT E mX0_write d 0 0 [.ref (eB E + 1), .int x] h I L Q) := by
  refine w_X0_write q.s _ ?_
  refine c_wr1 (s' := 16) q (by omega) (by decide) (by decide) (fun I1 u1 q1 => ?_)
  have t1 := (st_T (z := by_ x 24) q.w.S (by omega)).1
  refine c_wr1 (s' := 8) q1 (by omega) (by decide) (by decide) (fun I2 u2 q2 => ?_)
  have t2 := (st_T (z := by_ x 16) q1.w.S (by omega)).1
  refine c_wr1 (s' := 0) q2 (by omega) (by decide) (by decide) (fun I3 u3 q3 => ?_)
  have t3 := (st_T (z := by_ x 8) q2.w.S (by omega)).1
  refine c_wr1 (s' := (-8)) q3 (by omega) (by decide) (by decide) (fun I4 u4 q4 => ?_)
  exact w_X0_write_3 q.s _ _ (br_t (by decide) (hQ I4 (UC.tr (UC.tr (UC.tr u1 u2) u3) u4) q4))
theorem m_wr1 (hs : SL h) (w : WfS V) (hV : MV I V) {x s s' : Int32} (hT : cT V < 500) (hs0 : ¬ s < 0) (e : s + (-8) = s') (hQ : ∀ I', UM I I' → MV I' (stV V (by_ x s)) → (J E mX12_four d Q 0 0 3 [some (.ref (eB E + 83)), some (.int x), some (.int s')] [] h I' L)) : (J E mX12_four d Q 0 0 3 [some (.ref (eB E + 83)), some (.int x), some (.int s)] [] h I L) := by
  have et := w.t
  refine w_X12_four_3 hs _ _ (br_f hs0 ?_)
  rw [hV 85 (by decide) (by decide), e]
  exact ⟨by rw [et]; exact vp_in_nI (by omega) (by decide), hQ _ (UM.tr UM.u UM.u) hV.u.u⟩
theorem m_four (hs : SL h) (w : WfS V) (hV : MV I V) {x : Int32} (hT : cT V ≤ 496) (hQ : ∀ I', UM I I' → MV I' (wrV V x) → Q none h I' L) : (CT E mX12_four d 0 0 [.ref (eB E + 83), .int x] h I L Q) := by
  refine w_X12_four hs _ ?_
  refine m_wr1 (s' := 16) hs w hV (by omega) (by decide) (by decide) (fun I1 u1 v1 => ?_)
  have w1 := st_wf (z := by_ x 24) w (by omega) (by_r _ _)
  have t1 := (st_T (z := by_ x 24) w (by omega)).1
  refine m_wr1 (s' := 8) hs w1 v1 (by omega) (by decide) (by decide) (fun I2 u2 v2 => ?_)
  have w2 := st_wf (z := by_ x 16) w1 (by omega) (by_r _ _)
  have t2 := (st_T (z := by_ x 16) w1 (by omega)).1
  refine m_wr1 (s' := 0) hs w2 v2 (by omega) (by decide) (by decide) (fun I3 u3 v3 => ?_)
  have w3 := st_wf (z := by_ x 8) w2 (by omega) (by_r _ _)
  have t3 := (st_T (z := by_ x 8) w2 (by omega)).1
  refine m_wr1 (s' := (-8)) hs w3 v3 (by omega) (by decide) (by decide) (fun I4 u4 v4 => ?_)
  exact w_X12_four_3 hs _ _ (br_t (by decide) (hQ I4 (UM.tr (UM.tr (UM.tr u1 u2) u3) u4) v4))
theorem wr_T {x : Int32} (w : WfS V) (hT : cT V ≤ 496) : WfS (wrV V x) ∧ cT (wrV V x) = cT V + 4 := by
  have w1 := st_wf (z := by_ x 24) w (by omega) (by_r _ _)
  have t1 := (st_T (z := by_ x 24) w (by omega)).1
  have w2 := st_wf (z := by_ x 16) w1 (by omega) (by_r _ _)
  have t2 := (st_T (z := by_ x 16) w1 (by omega)).1
  have w3 := st_wf (z := by_ x 8) w2 (by omega) (by_r _ _)
  have t3 := (st_T (z := by_ x 8) w2 (by omega)).1
  have w4 := st_wf (z := by_ x 0) w3 (by omega) (by_r _ _)
  have t4 := (st_T (z := by_ x 0) w3 (by omega)).1
  exact ⟨w4, by unfold wrV; omega⟩
noncomputable def wr5 (V : mI) (a b c e f : Int32) : mI := wrV (wrV (wrV (wrV (wrV V a) b) c) e) f
noncomputable def feeN (V : mI) (a b c e f : Int32) : Int32 × mI := cip (cT V ≤ 480) (wr5 V a b c e f 85 0, wr5 V a b c e f) (-1, V)
theorem c_feed (q : CQ h I V) {a b c e f : Int32} (hQ : ∀ I', UC I I' → CQ h I' (feeN V a b c e f).2 → Q (some (.int (feeN V a b c e f).1)) h I' L) : (CT E mX11_feed (d + 1) 0 0 [.ref (eB E + 0), .int a, .int b, .int c, .int e, .int f] h I L Q) := by
  have t5 := q.w.S.t5
  unfold feeN at hQ
  refine w_X11_feed q.s _ _ _ _ _ ?_
  rw [bS_t q.b, q.w.S.t]
  by_cases hT : cT V ≤ 480
  · refine br_t (nI_le hT (by decide)) ?_
    rw [cip_t hT] at hQ
    dsimp only at hQ
    refine c_write q (by omega) (fun I1 u1 q1 => qv_i ?_)
    have t1 := (wr_T (x := a) q.w.S (by omega)).2
    refine c_write q1 (by omega) (fun I2 u2 q2 => qv_i ?_)
    have t2 := (wr_T (x := b) q1.w.S (by omega)).2
    refine c_write q2 (by omega) (fun I3 u3 q3 => qv_i ?_)
    have t3 := (wr_T (x := c) q2.w.S (by omega)).2
    refine c_write q3 (by omega) (fun I4 u4 q4 => qv_i ?_)
    have t4 := (wr_T (x := e) q3.w.S (by omega)).2
    refine c_write q4 (by omega) (fun I5 u5 q5 => qv_i ?_)
    rw [bS_t q5.b]
    exact hQ I5 (UC.tr (UC.tr (UC.tr (UC.tr u1 u2) u3) u4) u5) q5
  · refine br_f (nI_ge (show 480 < cT V by omega) (by omega)) ?_
    rw [cip_f hT] at hQ
    exact hQ I UC.rf q
theorem m_feed (hs : SL h) (w : Wf V) (hV : MV I V) {a b c e f : Int32} (hQ : ∀ I', UM I I' → MV I' (feeN V a b c e f).2 → Q (some (.int (feeN V a b c e f).1)) h I' L) : (CT E mX12_feed (d + 1) 0 0 [.ref (eB E + 83), .int a, .int b, .int c, .int e, .int f] h I L Q) := by
  have t5 := w.S.t5
  unfold feeN at hQ
  refine w_X12_feed hs _ _ _ _ _ ?_
  have e20 : V 85 0 + 20 = nI (cT V + 20) := by rw [w.S.t, show (20 : Int32) = nI 20 from rfl, nI_add]
  rw [hV 85 (by decide) (by decide), e20]
  have hV1 : MV (uI I 83 0 0) V := hV.o
  by_cases hT : cT V ≤ 480
  · refine br_t (nI_le (show cT V + 20 ≤ 500 by omega) (by decide)) ?_
    rw [cip_t hT] at hQ
    dsimp only at hQ
    refine m_four hs w.S hV1 (by omega) (fun I1 u1 v1 => qv_i ?_)
    obtain ⟨w1, t1⟩ := wr_T (x := a) w.S (by omega)
    refine m_four hs w1 v1 (by omega) (fun I2 u2 v2 => qv_i ?_)
    obtain ⟨w2, t2⟩ := wr_T (x := b) w1 (by omega)
    refine m_four hs w2 v2 (by omega) (fun I3 u3 v3 => qv_i ?_)
    obtain ⟨w3, t3⟩ := wr_T (x := c) w2 (by omega)
    refine m_four hs w3 v3 (by omega) (fun I4 u4 v4 => qv_i ?_)
    obtain ⟨w4, t4⟩ := wr_T (x := e) w3 (by omega)
    refine m_four hs w4 v4 (by omega) (fun I5 u5 v5 => qv_i ?_)
    have e5 : I5 85 = wr5 V a b c e f 85 := v5 85 (by decide) (by decide)
    rw [e5]
    exact hQ I5 (UM.tr (UM.tr (UM.tr (UM.tr (UM.tr UM.u u1) u2) u3) u4) u5) v5
  · refine br_f (nI_ge (show 500 < cT V + 20 by omega) (by omega)) ?_
    rw [cip_f hT] at hQ
    exact hQ _ UM.u hV1
end FE
