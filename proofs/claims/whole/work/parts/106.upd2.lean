/-! updates: person -/
theorem inN.mono {x : Int32} {n m : Nat} (h : inN x n) (hn : n ≤ m) : inN x m := by
  obtain ⟨j, hj, rfl⟩ := h
  exact ⟨j, by omega, rfl⟩
theorem r_2 {x : Int32} : (¬ x < 0 ∧ ¬ 1 < x) ↔ inN x 2 := rng_le (m := 1) rfl (by decide)
theorem r_8 {x : Int32} : (¬ x < 0 ∧ ¬ 7 < x) ↔ inN x 8 := rng_le (m := 7) rfl (by decide)
theorem bz_up {f : Nat → Int32} {n k : Nat} {x : Int32} (hx : bz x) (h : ∀ i, i < n → bz (f i)) : ∀ i, i < n → bz (upd f k x i) := by
  intro i hi
  unfold upd
  split
  · exact hx
  · exact h i hi
theorem opA_cv {V V' : mI} (e106 : V' 106 = V 106) (e107 : V' 107 = V 107) (e108 : V' 108 = V 108) (e109 : V' 109 = V 109) (p : Nat) : opA V' p = opA V p := by
  unfold opA hasB opB cM
  rw [e106, e107, e108, e109]
section U2
variable {E : Envt} {d : Nat} {Q : Pst} {h : mS} {I I' V V' : mI} {L : mL}
theorem CQ.P' (q : CQ h I V) (hI : ∀ a, a < 7 ∨ 16 < a → I' a = I a) (hV : ∀ a, a < 95 ∨ 103 < a → V' a = V a) (b : BkP I' 1 V') (o : BkO I' 1 V') (w : WfP V') (wn : WfN V') (wm : WfM V') (h97 : ∀ k, k < cN V → V' 97 (V 105 (4 * k + 1)).toNatClampNeg = V 97 (V 105 (4 * k + 1)).toNatClampNeg) : CQ h I' V' :=
  ⟨q.s, ⟨q.b.S.cv (fun a ha => hV a (by omega)) (fun a ha => hI a (by omega)), q.b.H.cv (fun a ha => hV a (by omega)) (fun a ha => hI a (by omega)), b, o, q.b.N.cv (fun a ha => hV a (by omega)) (fun a ha => hI a (by omega)), q.b.M.cv (fun a ha => hV a (by omega)) (fun a ha => hI a (by omega)), q.b.X.cv (fun a ha => hV a (by omega)) (fun a ha => hI a (by omega))⟩,
   ⟨q.w.S.cv (fun a ha => hV a (by omega)), q.w.H.cv (fun a ha => hV a (by omega)), w, wn, q.w.R.cv (fun a ha => hV a (by omega)), wm, q.w.T.cv (fun a ha => hV a (by omega)), q.w.W.cv (fun a ha => hV a (by omega))⟩,
   q.k.cv (hI 57 (by omega)) (hI 58 (by omega)) (hV 89 (by omega)) (hV 104 (by omega)) (hV 105 (by omega)) h97⟩
noncomputable def perV (V : mI) (p k s y : Int32) : mI := uI (uI (uI (uI (uI (uI (uI (uI (uI V 95 0 (V 95 0 + 1)) 96 (cP V) p) 97 (cP V) k) 98 (cP V) s) 99 (cP V) y) 100 (cP V) 0) 101 (cP V) (-1)) 102 (cP V) 0) 103 (cP V) 0
noncomputable def perN (V : mI) (p k s y : Int32) : Int32 × mI := cip (cP V < 20 ∧ inN p (cH V) ∧ (¬ k < 0 ∧ ¬ 1 < k) ∧ (¬ s < 0 ∧ ¬ 7 < s) ∧ (¬ y < (-80) ∧ ¬ V 88 0 < y)) (V 95 0, perV V p k s y) (-1, V)
theorem per_wf (w : Wf V) {p k s y : Int32} (c0 : cP V < 20) (c1 : inN p (cH V)) (c2 : inN k 2) (c3 : inN s 8) (c4 : ¬ y < (-80) ∧ ¬ V 88 0 < y) : WfP (perV V p k s y) ∧ WfN (perV V p k s y) ∧ WfM (perV V p k s y) := by
  obtain ⟨W, hW⟩ : ∃ W, W = perV V p k s y := ⟨_, rfl⟩
  have en := w.P.n
  have n8 := w.H.n8
  have n30 := w.M.n30
  have n60 := w.N.n60
  have w95 : W 95 0 = nI (cP V + 1) := by
    rw [hW]; unfold perV; simp (disch := decide) only [uI_ne, uI_eq]; rw [en, nI_1]
  have w96 : W 96 = upd (V 96) (cP V) p := by rw [hW]; unfold perV; simp (disch := decide) only [uI_ne, uI_at]
  have w97 : W 97 = upd (V 97) (cP V) k := by rw [hW]; unfold perV; simp (disch := decide) only [uI_ne, uI_at]
  have w98 : W 98 = upd (V 98) (cP V) s := by rw [hW]; unfold perV; simp (disch := decide) only [uI_ne, uI_at]
  have w99 : W 99 = upd (V 99) (cP V) y := by rw [hW]; unfold perV; simp (disch := decide) only [uI_ne, uI_at]
  have w100 : W 100 = upd (V 100) (cP V) 0 := by rw [hW]; unfold perV; simp (disch := decide) only [uI_ne, uI_at]
  have w101 : W 101 = upd (V 101) (cP V) (-1) := by rw [hW]; unfold perV; simp (disch := decide) only [uI_ne, uI_at]
  have w102 : W 102 = upd (V 102) (cP V) 0 := by rw [hW]; unfold perV; simp (disch := decide) only [uI_ne, uI_at]
  have w103 : W 103 = upd (V 103) (cP V) 0 := by rw [hW]; unfold perV; simp (disch := decide) only [uI_ne, uI_at]
  have wo : ∀ a, a < 95 ∨ 103 < a → W a = V a := fun a ha => by
    rw [hW]; unfold perV
    rw [uI_ne (by omega), uI_ne (by omega), uI_ne (by omega), uI_ne (by omega), uI_ne (by omega), uI_ne (by omega), uI_ne (by omega), uI_ne (by omega), uI_ne (by omega)]
  have ec : cP W = cP V + 1 := by
    have : (W 95 0).toNatClampNeg = cP V + 1 := by rw [w95, nI_clamp (by omega)]
    exact this
  have ecN : cN W = cN V := by unfold cN; rw [wo 104 (by omega)]
  have ecM : cM W = cM V := by unfold cM; rw [wo 106 (by omega)]
  have old : ∀ {f : Nat → Int32} {z : Int32} {i : Nat}, i < cP V → upd f (cP V) z i = f i := fun hi => upd_ne' (by omega)
  rw [← hW]
  have y1 : -80 ≤ y.toInt ∧ y.toInt ≤ 300 := by
    have a1 := c4.1
    have a2 := c4.2
    rw [fa_lt] at a1 a2
    have y3 := w.S.y3
    rw [w.S.y, nI_toInt (by omega)] at a2
    have e80 : ((-80) : Int32).toInt = -80 := by decide
    omega
  refine ⟨⟨by rw [ec]; exact w95, by omega, fun i hi => ?_, fun i hi => ?_, fun i hi => ?_, fun i hi => ?_, fun i hi => ?_, fun i hi => ?_, fun i hi => ?_, fun i hi => ?_⟩, ⟨?_, by rw [ecN]; exact n60, fun k hk => ?_, fun k hk => ?_, fun k hk => ?_, fun k hk => ?_, fun k c f hk h1 h2 hc hf => ?_⟩, ⟨?_, by rw [ecM]; exact n30, fun m hm => ?_, fun m hm => ?_, fun m hm => ?_, fun m hm => ?_, fun m hm => ?_, fun m hm => ?_, fun m hm => ?_, fun m k hm hk => ?_⟩⟩
  · rw [w96]; unfold upd; split
    · exact c1.mono n8
    · exact w.P.hou i hi
  · rw [w97]; unfold upd; split
    · obtain ⟨j, hj, rfl⟩ := c2
      have : j = 0 ∨ j = 1 := by omega
      rcases this with rfl | rfl
      · exact Or.inl rfl
      · exact Or.inr rfl
    · exact w.P.kin i hi
  · rw [w98]; unfold upd; split
    · exact c3
    · exact w.P.sta i hi
  · rw [w99]; unfold upd; split
    · exact y1
    · exact w.P.bor i hi
  · rw [w100]; unfold upd; split
    · exact Or.inl rfl
    · exact w.P.dea i hi
  · rw [w102]; unfold upd; split
    · exact Or.inl rfl
    · exact w.P.wid i hi
  · rw [w103]; unfold upd; split
    · exact Or.inl rfl
    · exact w.P.eve i hi
  · rw [ec] at hi ⊢
    rw [w101]; unfold upd
    by_cases e : i = cP V
    · rw [if_pos e]; exact Or.inl rfl
    · rw [if_neg e]
      exact (w.P.spo i (by omega)).imp id (fun z => z.mono (by omega))
  · rw [ecN, wo 104 (by omega)]; exact w.N.n
  · rw [ecN] at hk; rw [wo 105 (by omega), ec]; exact (w.N.chi k hk).mono (by omega)
  · rw [ecN] at hk; rw [wo 105 (by omega), ec]; exact (w.N.par k hk).mono (by omega)
  · rw [ecN] at hk; rw [wo 105 (by omega)]; exact w.N.at k hk
  · rw [ecN] at hk; rw [wo 105 (by omega)]; exact w.N.in k hk
  · rw [ecN] at hk
    rw [wo 105 (by omega)] at h1 h2
    obtain ⟨c', h3, h4⟩ := w.N.chi k hk
    obtain ⟨f', h5, h6⟩ := w.N.par k hk
    have e1 : c = c' := (nI_eq (by omega) (by omega)).mp (h1.symm.trans h4)
    have e2 : f = f' := (nI_eq (by omega) (by omega)).mp (h2.symm.trans h6)
    rw [w99, old (by omega), old (by omega)]
    exact w.N.old k c f hk h1 h2 hc hf
  · rw [ecM, wo 106 (by omega)]; exact w.M.n
  · rw [ecM] at hm
    obtain ⟨z, h1, h2, h3⟩ := w.M.bri m hm
    exact ⟨z, by omega, by rw [wo 107 (by omega)]; exact h2, by rw [w97, old h1]; exact h3⟩
  · rw [ecM] at hm
    obtain ⟨z, h1, h2, h3⟩ := w.M.gro m hm
    exact ⟨z, by omega, by rw [wo 108 (by omega)]; exact h2, by rw [w97, old h1]; exact h3⟩
  · rw [ecM] at hm; rw [wo 109 (by omega)]; exact w.M.sta m hm
  · rw [ecM] at hm; rw [wo 110 (by omega)]; exact w.M.gif m hm
  · rw [ecM] at hm; rw [wo 111 (by omega)]; exact w.M.bac m hm
  · rw [ecM] at hm; rw [wo 109 (by omega), wo 112 (by omega)]; exact w.M.pa0 m hm
  · rw [ecM] at hm; rw [wo 109 (by omega), wo 112 (by omega), wo 110 (by omega)]; exact w.M.pa1 m hm
  · rw [ecM] at hm hk
    unfold opB
    rw [wo 109 (by omega), wo 107 (by omega), wo 108 (by omega)]
    exact w.M.one m k hm hk
theorem opA_new (w : Wf V) : opA V (cP V) = (-1) := by
  have n20 := w.P.n20
  unfold opA
  have hall : ∀ m, m < cM V → hasB V (cP V) m = false := fun m hm => by
    obtain ⟨z, h1, h2, -⟩ := w.M.bri m hm
    obtain ⟨z', h3, h4, -⟩ := w.M.gro m hm
    unfold hasB
    rw [h2, h4]
    have g1 : ¬ nI z = nI (cP V) := fun e => by have := (nI_eq (by omega) (by omega)).mp e; omega
    have g2 : ¬ nI z' = nI (cP V) := fun e => by have := (nI_eq (by omega) (by omega)).mp e; omega
    simp [g1, g2]
  exact fstI_n hall
theorem c_person (q : CQ h I V) {p k s y : Int32} (hQ : ∀ I', UC I I' → CQ h I' (perN V p k s y).2 → Q (some (.int (perN V p k s y).1)) h I' L) : (CT E mX11_person (d + 1) 0 0 [.ref (eB E + 0), .int p, .int k, .int s, .int y] h I L Q) := by
  have n20 := q.w.P.n20
  have en := q.w.P.n
  unfold perN at hQ
  have no : (¬ (cP V < 20 ∧ inN p (cH V) ∧ (¬ k < 0 ∧ ¬ 1 < k) ∧ (¬ s < 0 ∧ ¬ 7 < s) ∧ (¬ y < (-80) ∧ ¬ V 88 0 < y))) → Q (some (.int (-1))) h I L := fun hn => by
    rw [cip_f hn] at hQ
    exact hQ I UC.rf q
  refine w_X11_person q.s _ _ _ _ ?_
  rw [bS_y q.b]
  refine br_c (fun c1 => br_c (fun c2 => br_c (fun c3 => br_c (fun c4 => ?_) (fun c4 => no fun e => c4 e.2.2.2.2)) (fun c3 => no fun e => c3 e.2.2.2.1)) (fun c2 => no fun e => c2 e.2.2.1)) (fun c1 => no fun e => c1 ((cH_r q).mpr e.2.1))
  refine w_X7_add q.s _ _ _ _ ?_
  rw [bP_n q.b, show (20 : Int32) = nI 20 from rfl, en, nI_lt' (by omega) (by decide)]
  refine br_c (fun c0 => ⟨vp_in_nI (by omega) (by decide), qi_i ?_⟩) (fun c0 => qi_i (no fun e => c0 e.1))
  have c1 := (cH_r q).mp c1
  rw [cip_t ⟨c0, c1, c2, c3, c4⟩] at hQ
  dsimp only at hQ
  rw [nI_clamp (by omega), nI_1, show nI (cP V + 1) - 1 = V 95 0 from by rw [← nI_1, en]; simp]
  obtain ⟨w1, w2, w3⟩ := per_wf q.w c0 c1 (r_2.mp c2) (r_8.mp c3) c4
  have ec : cP (perV V p k s y) = cP V + 1 := by
    have : (perV V p k s y 95 0).toNatClampNeg = cP V + 1 := by
      unfold perV; simp (disch := decide) only [uI_ne, uI_eq]; rw [en, nI_1, nI_clamp (by omega)]
    exact this
  refine hQ _ (UC.tr (UC.tr (UC.tr (UC.tr (UC.tr (UC.tr (UC.tr (UC.tr (UC.tr UC.u UC.u) UC.u) UC.u) UC.u) UC.u) UC.u) UC.u) UC.u) UC.u) (q.P' (fun a ha => ?_) (fun a ha => ?_) ⟨?_, ?_, ?_, ?_, ?_, ?_, fun i hi => ?_, ?_, fun i hi => ?_, by simp (disch := decide) only [uI_ne, uI_at]; exact bz_up (Or.inr rfl) (bP_alz q.b), by simp (disch := decide) only [uI_ne, uI_at]; exact bz_up (Or.inl rfl) (bP_waz q.b)⟩ ⟨fun i hi => ?_, trivial⟩ w1 w2 w3 ?_)
  · rw [uI_ne (by omega), uI_ne (by omega), uI_ne (by omega), uI_ne (by omega), uI_ne (by omega), uI_ne (by omega), uI_ne (by omega), uI_ne (by omega), uI_ne (by omega), uI_ne (by omega)]
  · unfold perV
    rw [uI_ne (by omega), uI_ne (by omega), uI_ne (by omega), uI_ne (by omega), uI_ne (by omega), uI_ne (by omega), uI_ne (by omega), uI_ne (by omega), uI_ne (by omega)]
  · unfold perV; simp (disch := decide) only [uI_ne, uI_eq]; rw [en, nI_1]
  · unfold perV; simp (disch := decide) only [uI_ne, uI_at]; exact upE (bP_hou q.b)
  · unfold perV; simp (disch := decide) only [uI_ne, uI_at]; exact upE (bP_kin q.b)
  · unfold perV; simp (disch := decide) only [uI_ne, uI_at]; exact upE (bP_sta q.b)
  · unfold perV; simp (disch := decide) only [uI_ne, uI_at]; exact upE (bP_bor q.b)
  · unfold perV; simp (disch := decide) only [uI_ne, uI_at]; exact upE (bP_spo q.b)
  · rw [ec] at hi
    unfold perV; simp (disch := decide) only [uI_ne, uI_at]
    unfold upd
    by_cases e : i = cP V
    · rw [if_pos e, if_pos e]; rfl
    · rw [if_neg e, if_neg e]; exact bP_ali q.b i (by omega)
  · unfold perV; simp (disch := decide) only [uI_ne, uI_at]; exact upE (bP_wid q.b)
  · rw [ec] at hi
    unfold perV; simp (disch := decide) only [uI_ne, uI_at]
    unfold upd
    by_cases e : i = cP V
    · rw [if_pos e, if_pos e, if_pos e]; intro _; rfl
    · rw [if_neg e, if_neg e, if_neg e]; exact bP_was q.b i (by omega)
  · rw [ec] at hi
    have eo : opA (perV V p k s y) i = opA V i := opA_cv (by unfold perV; simp (disch := decide) only [uI_ne]) (by unfold perV; simp (disch := decide) only [uI_ne]) (by unfold perV; simp (disch := decide) only [uI_ne]) (by unfold perV; simp (disch := decide) only [uI_ne]) i
    rw [eo]
    simp (disch := decide) only [uI_ne, uI_at]
    unfold upd
    by_cases e : i = cP V
    · rw [if_pos e, e, opA_new q.w]
    · rw [if_neg e]; exact bO_op q.b i (by omega)
  · intro k' hk'
    obtain ⟨f, h1, h2⟩ := q.w.N.par k' hk'
    rw [h2, nI_clamp (by omega)]
    unfold perV; simp (disch := decide) only [uI_ne, uI_at]
    exact upd_ne' (by omega)
theorem m_person (hs : SL h) (w : Wf V) (hV : MV I V) {p k s y : Int32} (hQ : ∀ I', UM I I' → MV I' (perN V p k s y).2 → Q (some (.int (perN V p k s y).1)) h I' L) : (CT E mX12_person (d + 2) 0 0 [.ref (eB E + 83), .int p, .int k, .int s, .int y] h I L Q) := by
  have n20 := w.P.n20
  have en := w.P.n
  unfold perN at hQ
  have no : (¬ (cP V < 20 ∧ inN p (cH V) ∧ (¬ k < 0 ∧ ¬ 1 < k) ∧ (¬ s < 0 ∧ ¬ 7 < s) ∧ (¬ y < (-80) ∧ ¬ V 88 0 < y))) → Q (some (.int (-1))) h (uI I 83 0 0) L := fun hn => by
    rw [cip_f hn] at hQ
    exact hQ _ UM.u hV.o
  refine w_X12_person hs _ _ _ _ ?_
  have e20 : I 95 0 = 20 ↔ cP V = 20 := by rw [hV 95 (by decide) (by decide), show (20 : Int32) = nI 20 from rfl, en, nI_eq (by omega) (by decide)]
  refine br_c (fun c0 => no fun e => by have := e20.mp c0; omega) (fun c0 => br_c (fun c1 => br_c (fun c2 => br_c (fun c3 => br_c (fun c4 => ?_) (fun c4 => no fun e => c4 (by rw [hV 88 (by decide) (by decide)]; exact e.2.2.2.2))) (fun c3 => no fun e => c3 e.2.2.2.1)) (fun c2 => no fun e => c2 e.2.2.1)) (fun c1 => no fun e => c1 ((mH_r w hV).mpr e.2.1)))
  rw [hV 88 (by decide) (by decide)] at c4
  rw [cip_t ⟨by have : ¬ cP V = 20 := fun e => c0 (e20.mpr e); omega, (mH_r w hV).mp c1, c2, c3, c4⟩] at hQ
  rw [hV 95 (by decide) (by decide)]
  exact ⟨by rw [en]; exact vp_in_nI (by omega) (by decide), hQ _ (UM.tr (UM.tr (UM.tr (UM.tr (UM.tr (UM.tr (UM.tr (UM.tr (UM.tr UM.u UM.u) UM.u) UM.u) UM.u) UM.u) UM.u) UM.u) UM.u) UM.u) hV.o.u.u.u.u.u.u.u.u.u⟩
end U2
