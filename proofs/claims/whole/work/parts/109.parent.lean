/-! update: parent -/
noncomputable def prtV (V : mI) (c f v : Int32) : mI := uI (uI (uI (uI (uI V 105 (4 * cN V) c) 105 (4 * cN V + 1) f) 105 (4 * cN V + 2) v) 105 (4 * cN V + 3) (V 88 0)) 104 0 (V 104 0 + 1)
noncomputable def prtN (V : mI) (c f v : Int32) : Int32 × mI := cip (cN V < 60 ∧ inN c (cP V) ∧ inN f (cP V) ∧ inN v 5 ∧ V 99 f.toNatClampNeg < V 99 c.toNatClampNeg) (V 104 0, prtV V c f v) (-1, V)
theorem prt_o {V : mI} {c f v : Int32} {a : Nat} (h1 : a ≠ 104) (h2 : a ≠ 105) : prtV V c f v a = V a := by unfold prtV; rw [uI_ne h1, uI_ne h2, uI_ne h2, uI_ne h2, uI_ne h2]
theorem prt_105 {V : mI} {c f v : Int32} : prtV V c f v 105 = upd (upd (upd (upd (V 105) (4 * cN V) c) (4 * cN V + 1) f) (4 * cN V + 2) v) (4 * cN V + 3) (V 88 0) := by
  unfold prtV; simp (disch := decide) only [uI_ne, uI_at]
theorem prt_j {V : mI} {c f v : Int32} (k : Nat) : prtV V c f v 105 (4 * k) = (if k = cN V then c else V 105 (4 * k)) ∧ prtV V c f v 105 (4 * k + 1) = (if k = cN V then f else V 105 (4 * k + 1)) ∧ prtV V c f v 105 (4 * k + 2) = (if k = cN V then v else V 105 (4 * k + 2)) ∧ prtV V c f v 105 (4 * k + 3) = (if k = cN V then V 88 0 else V 105 (4 * k + 3)) := by
  rw [prt_105]
  by_cases e : k = cN V
  · subst e
    refine ⟨?_, ?_, ?_, ?_⟩
    · rw [if_pos rfl, upd_ne' (by omega), upd_ne' (by omega), upd_ne' (by omega), upd_same']
    · rw [if_pos rfl, upd_ne' (by omega), upd_ne' (by omega), upd_same']
    · rw [if_pos rfl, upd_ne' (by omega), upd_same']
    · rw [if_pos rfl, upd_same']
  · refine ⟨?_, ?_, ?_, ?_⟩ <;> rw [if_neg e, upd_ne' (by omega), upd_ne' (by omega), upd_ne' (by omega), upd_ne' (by omega)]
theorem prt_n {V : mI} (w : Wf V) {c f v : Int32} (h : cN V < 60) : cN (prtV V c f v) = cN V + 1 ∧ prtV V c f v 104 0 = nI (cN V + 1) := by
  have e : prtV V c f v 104 0 = nI (cN V + 1) := by unfold prtV; rw [uI_eq, w.N.n, nI_1]
  refine ⟨?_, e⟩
  have : (prtV V c f v 104 0).toNatClampNeg = cN V + 1 := by rw [e, nI_clamp (by omega)]
  exact this
theorem prt_wf {V : mI} (w : Wf V) {c f : Nat} {v : Int32} (h : cN V < 60) (hc : c < cP V) (hf : f < cP V) (hv : inN v 5) (ho : V 99 f < V 99 c) : WfN (prtV V (nI c) (nI f) v) := by
  have n20 := w.P.n20
  obtain ⟨e1, e2⟩ := prt_n (c := nI c) (f := nI f) (v := v) w h
  have ep : cP (prtV V (nI c) (nI f) v) = cP V := by unfold cP; rw [prt_o (by decide) (by decide)]
  refine ⟨by rw [e1]; exact e2, by omega, fun k hk => ?_, fun k hk => ?_, fun k hk => ?_, fun k hk => ?_, fun k c' f' hk h1 h2 h3 h4 => ?_⟩
  · rw [(prt_j k).1, ep]
    split
    · exact ⟨c, hc, rfl⟩
    · exact w.N.chi k (by omega)
  · rw [(prt_j k).2.1, ep]
    split
    · exact ⟨f, hf, rfl⟩
    · exact w.N.par k (by omega)
  · rw [(prt_j k).2.2.1]
    split
    · exact hv
    · exact w.N.at k (by omega)
  · rw [(prt_j k).2.2.2]
    split
    · exact ⟨cY V, by have := w.S.y3; omega, w.S.y⟩
    · exact w.N.in k (by omega)
  · rw [(prt_j k).1] at h1
    rw [(prt_j k).2.1] at h2
    rw [prt_o (by decide) (by decide)]
    by_cases e : k = cN V
    · rw [if_pos e] at h1 h2
      have g1 := (nI_eq (by omega) (by omega)).mp h1
      have g2 := (nI_eq (by omega) (by omega)).mp h2
      rw [← g1, ← g2]; exact ho
    · rw [if_neg e] at h1 h2
      exact w.N.old k c' f' (by omega) h1 h2 h3 h4
section U5
variable {E : Envt} {d : Nat} {Q : Pst} {h : mS} {I I' V V' : mI} {L : mL}
theorem CQ.N' (q : CQ h I V) (hI : ∀ a, a < 17 ∨ (21 < a ∧ a ≠ 57) → I' a = I a) (hV : ∀ a, a ≠ 104 → a ≠ 105 → V' a = V a) (b : BkN I' 1 V') (w : WfN V') (k : Kc I' V') : CQ h I' V' :=
  ⟨q.s, ⟨q.b.S.cv (fun a ha => hV a (by omega) (by omega)) (fun a ha => hI a (by omega)), q.b.H.cv (fun a ha => hV a (by omega) (by omega)) (fun a ha => hI a (by omega)), q.b.P.cv (fun a ha => hV a (by omega) (by omega)) (fun a ha => hI a (by omega)), q.b.O.cv (fun a ha => hV a (by omega) (by omega)) (fun a ha => hI a (by omega)), b, q.b.M.cv (fun a ha => hV a (by omega) (by omega)) (fun a ha => hI a (by omega)), q.b.X.cv (fun a ha => hV a (by omega) (by omega)) (fun a ha => hI a (by omega))⟩,
   ⟨q.w.S.cv (fun a ha => hV a (by omega) (by omega)), q.w.H.cv (fun a ha => hV a (by omega) (by omega)), q.w.P.cv (fun a ha => hV a (by omega) (by omega)), w, q.w.R.cv (fun a ha => hV a (by omega) (by omega)), q.w.M.cv (fun a ha => hV a (by omega) (by omega)), q.w.T.cv (fun a ha => hV a (by omega) (by omega)), q.w.W.cv (fun a ha => hV a (by omega) (by omega))⟩, k⟩
theorem up4 {g r : Nat → Int32} {n : Nat} {x : Int32} {u : Nat → Nat} (h : ∀ k, k < 60 → g k = r (u k)) : ∀ k, k < 60 → upd g n x k = if k = n then x else r (u k) := by
  intro k hk
  unfold upd
  split
  · rfl
  · exact h k hk
theorem c_parent (q : CQ h I V) {c f v : Int32} (hQ : ∀ I', UC I I' → CQ h I' (prtN V c f v).2 → Q (some (.int (prtN V c f v).1)) h I' L) : (CT E mX11_parent (d + 2) 0 0 [.ref (eB E + 0), .int c, .int f, .int v] h I L Q) := by
  have n20 := q.w.P.n20
  have n60 := q.w.N.n60
  have en := q.w.N.n
  unfold prtN at hQ
  have no : (¬ (cN V < 60 ∧ inN c (cP V) ∧ inN f (cP V) ∧ inN v 5 ∧ V 99 f.toNatClampNeg < V 99 c.toNatClampNeg)) → ∀ I', UC I I' → CQ h I' V → Q (some (.int (-1))) h I' L := fun hn I' u' q' => by
    rw [cip_f hn] at hQ
    exact hQ I' u' q'
  refine w_X11_parent q.s _ _ _ (br_c (fun c1 => br_c (fun c2 => br_c (fun c3 => ?_) (fun c3 => no (fun e => c3 (r_5.mpr e.2.2.2.1)) I UC.rf q)) (fun c2 => no (fun e => c2 ((cP_r q).mpr e.2.2.1)) I UC.rf q)) (fun c1 => no (fun e => c1 ((cP_r q).mpr e.2.1)) I UC.rf q))
  have i1 := (cP_r q).mp c1
  have i2 := (cP_r q).mp c2
  have i3 := r_5.mp c3
  have j1 := i1
  have j2 := i2
  obtain ⟨c, hc, rfl⟩ := i1
  obtain ⟨f, hf, rfl⟩ := i2
  rw [nI_clamp (show c < 2 ^ 31 by omega), nI_clamp (show f < 2 ^ 31 by omega)] at hQ no
  rw [nI_clamp (show c < 2 ^ 31 by omega), nI_clamp (show f < 2 ^ 31 by omega), bP_bor q.b c (by omega), bP_bor q.b f (by omega)]
  refine ⟨vp_in_nI (by omega) (by decide), vp_in_nI (by omega) (by decide), br_c (fun c4 => ?_) (fun c4 => no (fun e => c4 e.2.2.2.2) I UC.rf q)⟩
  refine c_forget q.s (fun g hg => qv_i ?_)
  have q1 : CQ h (sA I 57 g) V := q.fr FrC.s (fun v hv hn => absurd (by rw [sA_at]; exact hg v hv) hn)
  refine w_X5_add q.s _ _ _ _ ?_
  rw [bN_n q1.b, show (60 : Int32) = nI 60 from rfl, en, nI_lt' (by omega) (by decide), bS_y q1.b]
  refine br_c (fun c0 => ⟨vp_in_nI c0 (by decide), qi_i ?_⟩) (fun c0 => qi_i (no (fun e => c0 e.1) _ (FrC.uc FrC.s) q1))
  rw [cip_t ⟨c0, j1, j2, i3, c4⟩] at hQ
  dsimp only at hQ
  obtain ⟨e1, e2⟩ := prt_n (c := nI c) (f := nI f) (v := v) q.w c0
  rw [nI_clamp (show cN V < 2 ^ 31 by omega), nI_1, show nI (cN V + 1) - 1 = V 104 0 from by rw [← nI_1, en]; simp]
  refine hQ _ (UC.tr (FrC.uc FrC.s) (UC.tr (UC.tr (UC.tr (UC.tr UC.u UC.u) UC.u) UC.u) UC.u)) (q1.N' (fun a ha => ?_) (fun a h1 h2 => prt_o h1 h2) ⟨?_, ?_, ?_, ?_, ?_, ?_, ?_, ?_⟩ (prt_wf q.w c0 hc hf i3 c4) ?_)
  · rw [uI_ne (by omega), uI_ne (by omega), uI_ne (by omega), uI_ne (by omega), uI_ne (by omega)]
  · rw [uI_eq, e2]
  · intro k hk
    rw [(prt_j k).1]; simp (disch := decide) only [uI_ne, uI_at]
    exact up4 (u := fun k => 4 * k) (bN_chi q1.b) k hk
  · intro k hk
    rw [(prt_j k).2.1]; simp (disch := decide) only [uI_ne, uI_at]
    exact up4 (u := fun k => 4 * k + 1) (bN_par q1.b) k hk
  · intro k hk
    rw [(prt_j k).2.2.1]; simp (disch := decide) only [uI_ne, uI_at]
    exact up4 (u := fun k => 4 * k + 2) (bN_at q1.b) k hk
  · intro k hk
    rw [(prt_j k).2.2.2]; simp (disch := decide) only [uI_ne, uI_at]
    exact up4 (u := fun k => 4 * k + 3) (bN_in q1.b) k hk
  · rw [prt_o (by decide) (by decide)]; simp (disch := decide) only [uI_ne]; exact bN_ro q1.b
  · simp (disch := decide) only [uI_ne]; exact bN_di q1.b
  · have ew : ∀ a v', wyA (prtV V (nI c) (nI f) v) a v' = wyA V a v' := fun a v' => by unfold wyA tkS; rw [prt_o (by decide) (by decide)]
    simp (disch := decide) only [uI_ne, ew]; exact bN_wy q1.b
  · intro v' hv' hn
    simp (disch := decide) only [uI_ne] at hn
    rw [sA_at] at hn
    exact absurd (hg v' hv') hn
theorem m_parent (hs : SL h) (w : Wf V) (hV : MV I V) {c f v : Int32} (hQ : ∀ I', UM I I' → MV I' (prtN V c f v).2 → Q (some (.int (prtN V c f v).1)) h I' L) : (CT E mX12_parent (d + 2) 0 0 [.ref (eB E + 83), .int c, .int f, .int v] h I L Q) := by
  have n20 := w.P.n20
  have n60 := w.N.n60
  have en := w.N.n
  unfold prtN at hQ
  have no : (¬ (cN V < 60 ∧ inN c (cP V) ∧ inN f (cP V) ∧ inN v 5 ∧ V 99 f.toNatClampNeg < V 99 c.toNatClampNeg)) → Q (some (.int (-1))) h (uI I 83 0 0) L := fun hn => by
    rw [cip_f hn] at hQ
    exact hQ _ UM.u hV.o
  refine w_X12_parent hs _ _ _ ?_
  have e60 : I 104 0 = 60 ↔ cN V = 60 := by rw [hV 104 (by decide) (by decide), show (60 : Int32) = nI 60 from rfl, en, nI_eq (by omega) (by decide)]
  refine br_c (fun c0 => no fun e => by have := e60.mp c0; omega) (fun c0 => br_c (fun c1 => br_c (fun c2 => br_c (fun c3 => ?_) (fun c3 => no fun e => c3 (r_5.mpr e.2.2.2.1))) (fun c2 => no fun e => c2 ((mP_r w hV).mpr e.2.2.1))) (fun c1 => no fun e => c1 ((mP_r w hV).mpr e.2.1)))
  have i1 := (mP_r w hV).mp c1
  have i2 := (mP_r w hV).mp c2
  have i3 := r_5.mp c3
  have j1 := i1
  have j2 := i2
  rw [hV 99 (by decide) (by decide)]
  refine ⟨vpP w i2 (by decide) (by decide), vpP w i1 (by decide) (by decide), br_c (fun c4 => ?_) (fun c4 => no fun e => c4 e.2.2.2.2)⟩
  have c0' : cN V < 60 := by have : ¬ cN V = 60 := fun e => c0 (e60.mpr e); omega
  rw [cip_t ⟨c0', j1, j2, i3, c4⟩] at hQ
  dsimp only at hQ
  have q0 : 4 * nI (cN V) = nI (4 * cN V) := by rw [N4, pk_mul]
  have q1 : 4 * nI (cN V) + 1 = nI (4 * cN V + 1) := by rw [q0, nI_1]
  have q2 : 4 * nI (cN V) + 2 = nI (4 * cN V + 2) := by rw [q0, N2, nI_add]
  have q3 : 4 * nI (cN V) + 3 = nI (4 * cN V + 3) := by rw [q0, N3, nI_add]
  rw [hV 104 (by decide) (by decide), hV 88 (by decide) (by decide), show V 104 0 + 1 - 1 = V 104 0 by simp]
  have fin := hQ (uI (uI (uI (uI (uI (uI I 83 0 0) 105 (4 * cN V) c) 105 (4 * cN V + 1) f) 105 (4 * cN V + 2) v) 105 (4 * cN V + 3) (V 88 0)) 104 0 (V 104 0 + 1)) (UM.tr UM.u (UM.tr (UM.tr (UM.tr (UM.tr UM.u UM.u) UM.u) UM.u) UM.u)) hV.o.u.u.u.u.u
  rw [en, q1, q2, q3, q0, nI_clamp (show 4 * cN V < 2 ^ 31 by omega), nI_clamp (show 4 * cN V + 1 < 2 ^ 31 by omega), nI_clamp (show 4 * cN V + 2 < 2 ^ 31 by omega), nI_clamp (show 4 * cN V + 3 < 2 ^ 31 by omega)]
  rw [en] at fin
  exact ⟨vp_in_nI (by omega) (by decide), vp_in_nI (by omega) (by decide), vp_in_nI (by omega) (by decide), vp_in_nI (by omega) (by decide), fin⟩
end U5
