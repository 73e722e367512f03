/-! update: die -/
theorem uI_comm {I : mI} {a b i j : Nat} {x y : Int32} (h : a ≠ b) : uI (uI I a i x) b j y = uI (uI I b j y) a i x := by
  rw [uI_s, uI_s, uI_s, uI_s, sA_ne h, sA_ne (fun e => h e.symm)]
  funext c
  unfold sA
  by_cases e1 : c = b
  · by_cases e2 : c = a
    · exact absurd (e2.symm.trans e1) h
    · rw [if_pos e1, if_neg e2, if_pos e1]
  · rw [if_neg e1]
    by_cases e2 : c = a
    · rw [if_pos e2, if_pos e2]
    · rw [if_neg e2, if_neg e2, if_neg e1]
theorem cls_uI {V : mI} {m a i : Nat} {x s : Int32} (h1 : a ≠ 109) (h2 : a ≠ 114) (h3 : a ≠ 88) : clsV (uI V a i x) m s = uI (clsV V m s) a i x := by
  unfold clsV
  rw [uI_ne (fun e => h3 e.symm), uI_comm h1, uI_comm h2]
noncomputable def brY (V : mI) (p : Nat) : mI := cif (V 101 p = (-1)) (uI V 100 p 1) (uI (uI (uI (uI V 100 p 1) 101 (V 101 p).toNatClampNeg (-1)) 101 p (-1)) 102 (V 101 p).toNatClampNeg (bI (V 97 (V 101 p).toNatClampNeg = 0)))
theorem cls_brY {V : mI} {m p : Nat} {s : Int32} : brY (clsV V m s) p = clsV (brY V p) m s := by
  have e1 : clsV V m s 101 = V 101 := cls_o (by decide) (by decide)
  have e2 : clsV V m s 97 = V 97 := cls_o (by decide) (by decide)
  unfold brY
  rw [e1, e2]
  by_cases c : V 101 p = (-1)
  · rw [cif_t c, cif_t c, cls_uI (by decide) (by decide) (by decide)]
  · rw [cif_f c, cif_f c, cls_uI (by decide) (by decide) (by decide), cls_uI (by decide) (by decide) (by decide), cls_uI (by decide) (by decide) (by decide), cls_uI (by decide) (by decide) (by decide)]
theorem brY_o {V : mI} {p a : Nat} (h : a ≠ 100) (h2 : a ≠ 101) (h3 : a ≠ 102) : brY V p a = V a := by
  unfold brY
  by_cases c : V 101 p = (-1)
  · rw [cif_t c, uI_ne h]
  · rw [cif_f c, uI_ne h3, uI_ne h2, uI_ne h2, uI_ne h]
noncomputable def dieV (V : mI) (p : Nat) : mI := cif (opA V p = (-1)) (brY V p) (clsV (brY V p) (opA V p).toNatClampNeg 4)
noncomputable def dieN (V : mI) (p : Int32) : Int32 × mI := cip (inN p (cP V) ∧ V 100 p.toNatClampNeg = 0) (1, dieV V p.toNatClampNeg) (0, V)
section DI
variable {E : Envt} {d : Nat} {Q : Pst} {h : mS} {I I' V V' : mI} {L : mL}
theorem bz_bI {p : Prop} {i : Decidable p} : bz (@bI p i) := by
  by_cases c : p
  · rw [bI_t c]; exact Or.inr rfl
  · rw [bI_f c]; exact Or.inl rfl
theorem c_bury (q : CQ h I V) {p : Nat} (hp : p < cP V) (hQ : ∀ I', (∀ a, a ≠ 12 → a ≠ 14 → a ≠ 15 → I' a = I a) → CQ h I' (brY V p) → Q none h I' L) : (CT E mX7_bury (d + 1) 0 0 [.ref (eB E + 7), .int (nI p)] h I L Q) := by
  have n20 := q.w.P.n20
  refine w_X7_bury q.s _ ⟨vp_in_nI (by omega) (by decide), ?_⟩
  rw [nI_clamp (by omega), bP_spo q.b p (by omega)]
  rintro y2 rfl
  have e7 : uI I 14 p 0 7 = I 7 := uI_ne (by decide)
  rw [e7, cP_r q]
  have ali : ∀ i, i < cP V → upd (I 14) p 0 i = if upd (V 100) p 1 i = 0 then (1 : Int32) else 0 := fun i hi => by
    unfold upd
    by_cases e : i = p
    · rw [if_pos e, if_pos e]; rfl
    · rw [if_neg e, if_neg e]; exact bP_ali q.b i hi
  have dea : ∀ i, i < 20 → bz (upd (V 100) p 1 i) := fun i hi => by
    unfold upd; split
    · exact Or.inr rfl
    · exact q.w.P.dea i hi
  rcases q.w.P.spo p hp with c | c
  · have ey : brY V p = uI V 100 p 1 := by unfold brY; rw [cif_t c]
    rw [ey] at hQ
    have ep : cP (uI V 100 p 1) = cP V := by unfold cP; rw [uI_ne (by decide)]
    refine br_f (fun e => by rw [c] at e; obtain ⟨j, hj, e⟩ := e; exact m1_nI (by omega) e.symm) ?_
    refine hQ _ (fun a _ h2 _ => uI_ne h2) (q.P' (fun a ha => uI_ne (by omega)) (fun a ha => uI_ne (by omega)) ⟨?_, ?_, ?_, ?_, ?_, ?_, ?_, ?_, ?_, by simp (disch := decide) only [uI_ne, uI_at]; exact bz_up (Or.inl rfl) (bP_alz q.b), by simp (disch := decide) only [uI_ne]; exact bP_waz q.b⟩ (q.b.O.cv (fun a ha => uI_ne (by omega)) (fun a ha => uI_ne (by omega))) ⟨?_, by rw [ep]; exact n20, ?_, ?_, ?_, ?_, ?_, ?_, ?_, ?_⟩ (q.w.N.cv (fun a ha => uI_ne (by omega))) (q.w.M.cv (fun a ha => uI_ne (by omega))) (fun k _ => by rw [uI_ne (by decide)]))
    · simp (disch := decide) only [uI_ne]; exact bP_n q.b
    · simp (disch := decide) only [uI_ne]; exact bP_hou q.b
    · simp (disch := decide) only [uI_ne]; exact bP_kin q.b
    · simp (disch := decide) only [uI_ne]; exact bP_sta q.b
    · simp (disch := decide) only [uI_ne]; exact bP_bor q.b
    · simp (disch := decide) only [uI_ne]; exact bP_spo q.b
    · rw [ep]; simp (disch := decide) only [uI_ne, uI_at]; exact ali
    · simp (disch := decide) only [uI_ne]; exact bP_wid q.b
    · rw [ep]; simp (disch := decide) only [uI_ne]; exact bP_was q.b
    · rw [ep]; simp (disch := decide) only [uI_ne]; exact q.w.P.n
    · simp (disch := decide) only [uI_ne]; exact q.w.P.hou
    · simp (disch := decide) only [uI_ne]; exact q.w.P.kin
    · simp (disch := decide) only [uI_ne]; exact q.w.P.sta
    · simp (disch := decide) only [uI_ne]; exact q.w.P.bor
    · simp (disch := decide) only [uI_at]; exact dea
    · simp (disch := decide) only [uI_ne]; exact q.w.P.wid
    · simp (disch := decide) only [uI_ne]; exact q.w.P.eve
    · rw [ep]; simp (disch := decide) only [uI_ne]; exact q.w.P.spo
  · have ec := c
    obtain ⟨s, hs, es⟩ := c
    have cn : ¬ V 101 p = (-1) := fun e => by rw [es] at e; exact m1_nI (by omega) e
    have ey : brY V p = uI (uI (uI (uI V 100 p 1) 101 s (-1)) 101 p (-1)) 102 s (bI (V 97 s = 0)) := by unfold brY; rw [cif_f cn, es, nI_clamp (by omega)]
    rw [ey] at hQ
    refine br_t ec ⟨by rw [es]; exact vp_in_nI (by omega) (by decide), ?_⟩
    rw [es, nI_clamp (by omega), bP_kin q.b s (by omega)]
    obtain ⟨W, hW⟩ : ∃ W, W = uI (uI (uI (uI V 100 p 1) 101 s (-1)) 101 p (-1)) 102 s (bI (V 97 s = 0)) := ⟨_, rfl⟩
    rw [← hW] at hQ
    have wo : ∀ a, a ≠ 100 → a ≠ 101 → a ≠ 102 → W a = V a := fun a h1 h2 h3 => by rw [hW, uI_ne h3, uI_ne h2, uI_ne h2, uI_ne h1]
    have w100 : W 100 = upd (V 100) p 1 := by rw [hW]; simp (disch := decide) only [uI_ne, uI_at]
    have w101 : W 101 = upd (upd (V 101) s (-1)) p (-1) := by rw [hW]; simp (disch := decide) only [uI_ne, uI_at]
    have w102 : W 102 = upd (V 102) s (bI (V 97 s = 0)) := by rw [hW]; simp (disch := decide) only [uI_ne, uI_at]
    have ep : cP W = cP V := by unfold cP; rw [wo 95 (by decide) (by decide) (by decide)]
    refine hQ _ (fun a h1 h2 h3 => by rw [uI_ne h3, uI_ne h1, uI_ne h1, uI_ne h2]) (q.P' (fun a ha => by rw [uI_ne (by omega), uI_ne (by omega), uI_ne (by omega), uI_ne (by omega)]) (fun a ha => wo a (by omega) (by omega) (by omega)) ⟨?_, ?_, ?_, ?_, ?_, ?_, ?_, ?_, ?_, by simp (disch := decide) only [uI_ne, uI_at]; exact bz_up (Or.inl rfl) (bP_alz q.b), by simp (disch := decide) only [uI_ne]; exact bP_waz q.b⟩ (q.b.O.cv (fun a ha => wo a (by omega) (by omega) (by omega)) (fun a ha => by rw [uI_ne (by omega), uI_ne (by omega), uI_ne (by omega), uI_ne (by omega)])) ⟨?_, by rw [ep]; exact n20, ?_, ?_, ?_, ?_, ?_, ?_, ?_, ?_⟩ (q.w.N.cv (fun a ha => wo a (by omega) (by omega) (by omega))) (q.w.M.cv (fun a ha => wo a (by omega) (by omega) (by omega))) (fun k _ => by rw [wo 97 (by decide) (by decide) (by decide)]))
    · rw [wo 95 (by decide) (by decide) (by decide)]; simp (disch := decide) only [uI_ne]; exact bP_n q.b
    · rw [wo 96 (by decide) (by decide) (by decide)]; simp (disch := decide) only [uI_ne]; exact bP_hou q.b
    · rw [wo 97 (by decide) (by decide) (by decide)]; simp (disch := decide) only [uI_ne]; exact bP_kin q.b
    · rw [wo 98 (by decide) (by decide) (by decide)]; simp (disch := decide) only [uI_ne]; exact bP_sta q.b
    · rw [wo 99 (by decide) (by decide) (by decide)]; simp (disch := decide) only [uI_ne]; exact bP_bor q.b
    · rw [w101]; simp (disch := decide) only [uI_ne, uI_at]; exact upE (upE (bP_spo q.b))
    · rw [ep, w100]; simp (disch := decide) only [uI_ne, uI_at]; exact ali
    · rw [w102]; simp (disch := decide) only [uI_ne, uI_at]; exact upE (bP_wid q.b)
    · rw [ep, wo 97 (by decide) (by decide) (by decide), wo 103 (by decide) (by decide) (by decide)]; simp (disch := decide) only [uI_ne]; exact bP_was q.b
    · rw [ep, wo 95 (by decide) (by decide) (by decide)]; exact q.w.P.n
    · rw [wo 96 (by decide) (by decide) (by decide)]; exact q.w.P.hou
    · rw [wo 97 (by decide) (by decide) (by decide)]; exact q.w.P.kin
    · rw [wo 98 (by decide) (by decide) (by decide)]; exact q.w.P.sta
    · rw [wo 99 (by decide) (by decide) (by decide)]; exact q.w.P.bor
    · rw [w100]; exact dea
    · rw [w102]; intro i hi; unfold upd; split
      · exact bz_bI
      · exact q.w.P.wid i hi
    · rw [wo 103 (by decide) (by decide) (by decide)]; exact q.w.P.eve
    · rw [ep, w101]; intro i hi; unfold upd; split
      · exact Or.inl rfl
      · split
        · exact Or.inl rfl
        · exact q.w.P.spo i hi
theorem c_die (q : CQ h I V) {p : Int32} (hQ : ∀ I', UC I I' → CQ h I' (dieN V p).2 → Q (some (.int (dieN V p).1)) h I' L) : (CT E mX11_die (d + 3) 0 0 [.ref (eB E + 0), .int p] h I L Q) := by
  have n20 := q.w.P.n20
  have n30 := q.w.M.n30
  unfold dieN at hQ
  have no : (¬ (inN p (cP V) ∧ V 100 p.toNatClampNeg = 0)) → Q (some (.int 0)) h I L := fun hn => by
    rw [cip_f hn] at hQ
    exact hQ I UC.rf q
  refine w_X11_die q.s _ (br_c (fun c1 => ?_) (fun c1 => no fun e => c1 ((cP_r q).mpr e.1)))
  have i1 := (cP_r q).mp c1
  have j1 := i1
  obtain ⟨p, hp, rfl⟩ := i1
  rw [nI_clamp (by omega)] at hQ no ⊢
  refine ⟨vp_in_nI (by omega) (by decide), ?_⟩
  rw [bP_ali q.b p hp, bO_op q.b p hp]
  by_cases c2 : V 100 p = 0
  · rw [if_pos c2]
    refine br_f (by decide) ?_
    rintro y6 rfl
    rw [cip_t ⟨j1, c2⟩] at hQ
    dsimp only at hQ
    unfold dieV at hQ
    rw [cM_r q]
    rcases opA_c V p with ⟨e, -⟩ | ⟨m, hm, hb, -, e⟩
    · have hn : ¬ inN (opA V p) (cM V) := fun z => by rw [e] at z; obtain ⟨j, hj, z⟩ := z; exact m1_nI (by omega) z.symm
      refine ⟨fun z => absurd z hn, br_f (fun z => z.elim (fun z => hn z.1) (fun z => hn z.1)) ?_⟩
      rw [cif_t e] at hQ
      exact c_bury q hp (fun I' f' q' => qv_i (hQ I' (fun a ha => f' a (by omega) (by omega) (by omega)) q'))
    · have hn : inN (opA V p) (cM V) := ⟨m, hm, e⟩
      have ho := (hasB_iff.mp hb).1
      refine ⟨fun z => by rw [e]; exact vp_in_nI (by omega) (by decide), ?_⟩
      rw [cif_f (fun z => by rw [e] at z; exact m1_nI (by omega) z)] at hQ
      rw [e, nI_clamp (by omega)] at hQ ⊢
      rw [e] at hn
      rw [bM_sta q.b m (by omega)]
      refine br_t (ho.imp (fun z => ⟨hn, z⟩) (fun z => ⟨hn, z⟩)) ?_
      refine c_close q hm (opB_iff.mpr ho) (Or.inr rfl) (fun I1 f1 q1 => qv_i ?_)
      refine c_bury q1 (by rw [cls_P]; exact hp) (fun I2 f2 q2 => qv_i ?_)
      rw [cls_brY] at q2
      exact hQ I2 (fun a ha => (f2 a (by omega) (by omega) (by omega)).trans (f1 a (by omega) (by omega) (by omega))) q2
  · rw [if_neg c2]
    exact br_t rfl (no fun e => c2 e.2)
theorem brY_wf (w : Wf V) {p : Nat} (hp : p < cP V) : Wf (brY V p) := by
  have n20 := w.P.n20
  have o : ∀ a, a ≠ 100 → a ≠ 101 → a ≠ 102 → brY V p a = V a := fun a h1 h2 h3 => brY_o h1 h2 h3
  have ep : cP (brY V p) = cP V := by unfold cP; rw [o 95 (by decide) (by decide) (by decide)]
  refine ⟨w.S.cv (fun a ha => o a (by omega) (by omega) (by omega)), w.H.cv (fun a ha => o a (by omega) (by omega) (by omega)), ?_, w.N.cv (fun a ha => o a (by omega) (by omega) (by omega)), w.R.cv (fun a ha => o a (by omega) (by omega) (by omega)), w.M.cv (fun a ha => o a (by omega) (by omega) (by omega)), w.T.cv (fun a ha => o a (by omega) (by omega) (by omega)), w.W.cv (fun a ha => o a (by omega) (by omega) (by omega))⟩
  refine ⟨by rw [ep, o 95 (by decide) (by decide) (by decide)]; exact w.P.n, by rw [ep]; exact n20, by rw [o 96 (by decide) (by decide) (by decide)]; exact w.P.hou, by rw [o 97 (by decide) (by decide) (by decide)]; exact w.P.kin, by rw [o 98 (by decide) (by decide) (by decide)]; exact w.P.sta, by rw [o 99 (by decide) (by decide) (by decide)]; exact w.P.bor, fun i hi => ?_, fun i hi => ?_, by rw [o 103 (by decide) (by decide) (by decide)]; exact w.P.eve, fun i hi => ?_⟩
  · have e : brY V p 100 = upd (V 100) p 1 := by
      unfold brY
      by_cases c : V 101 p = (-1)
      · rw [cif_t c, uI_at]
      · rw [cif_f c]; simp (disch := decide) only [uI_ne, uI_at]
    rw [e]; unfold upd; split
    · exact Or.inr rfl
    · exact w.P.dea i hi
  · unfold brY
    by_cases c : V 101 p = (-1)
    · rw [cif_t c, uI_ne (by decide)]; exact w.P.wid i hi
    · rw [cif_f c, uI_at]; unfold upd; split
      · exact bz_bI
      · rw [uI_ne (by decide), uI_ne (by decide), uI_ne (by decide)]; exact w.P.wid i hi
  · rw [ep] at hi ⊢
    unfold brY
    by_cases c : V 101 p = (-1)
    · rw [cif_t c, uI_ne (by decide)]; exact w.P.spo i hi
    · rw [cif_f c, uI_ne (by decide), uI_at]; unfold upd; split
      · exact Or.inl rfl
      · rw [uI_at]; unfold upd; split
        · exact Or.inl rfl
        · rw [uI_ne (by decide)]; exact w.P.spo i hi
theorem m_die2 (hs : SL h) (w : Wf V) {p : Nat} (hp : p < cP V) (hV : MV I (brY V p)) (hQ : ∀ I', UM I I' → MV I' (dieV V p) → Q (some (.int 1)) h I' L) : CT E mX12_openOf (d + 1) 0 0 [.ref (eB E + 83), .int (nI p)] h I L (qi h L fun r9 I8 => (((r9 = (-1)) → Q (some (.int 1)) h I8 L) ∧ (¬ (r9 = (-1)) → (CT E mX12_comes (d + 1) 0 0 [.ref (eB E + 83), .int r9, .int 4] h I8 L (qv h L fun I11 => Q (some (.int 1)) h I11 L))))) := by
  have n30 := w.M.n30
  have w1 := brY_wf w hp
  refine m_openOf hs w1 hV (qi_i ?_)
  have eo : opA (brY V p) p = opA V p := opA_cv (brY_o (by decide) (by decide) (by decide)) (brY_o (by decide) (by decide) (by decide)) (brY_o (by decide) (by decide) (by decide)) (brY_o (by decide) (by decide) (by decide)) p
  have em : cM (brY V p) = cM V := by unfold cM; rw [brY_o (by decide) (by decide) (by decide)]
  rw [eo]
  unfold dieV at hQ
  rcases opA_c V p with ⟨e, -⟩ | ⟨m, hm, hb, -, e⟩
  · rw [cif_t e] at hQ
    exact br_t e (hQ I UM.rf hV)
  · have en : ¬ opA V p = (-1) := fun z => by rw [e] at z; exact m1_nI (by omega) z
    rw [cif_f en, e, nI_clamp (by omega)] at hQ
    refine br_f en ?_
    rw [e]
    exact m_comes hs w1 hV (by rw [em]; exact hm) (fun I' u' v' => qv_i (hQ I' u' v'))
theorem m_die (hs : SL h) (w : Wf V) (hV : MV I V) {p : Int32} (hQ : ∀ I', UM I I' → MV I' (dieN V p).2 → Q (some (.int (dieN V p).1)) h I' L) : (CT E mX12_die (d + 2) 0 0 [.ref (eB E + 83), .int p] h I L Q) := by
  have n20 := w.P.n20
  unfold dieN at hQ
  have no : (¬ (inN p (cP V) ∧ V 100 p.toNatClampNeg = 0)) → Q (some (.int 0)) h (uI I 83 0 0) L := fun hn => by
    rw [cip_f hn] at hQ
    exact hQ _ UM.u hV.o
  refine w_X12_die hs _ (br_c (fun c1 => ?_) (fun c1 => no fun e => c1 ((mP_r w hV).mpr e.1)))
  have i1 := (mP_r w hV).mp c1
  have j1 := i1
  obtain ⟨p, hp, rfl⟩ := i1
  rw [nI_clamp (by omega)] at hQ no ⊢
  refine ⟨vp_in_nI (by omega) (by decide), ?_⟩
  rw [hV 100 (by decide) (by decide), hV 101 (by decide) (by decide), hV 97 (by decide) (by decide)]
  refine br_c (fun c2 => ?_) (fun c2 => no fun e => c2 e.2)
  rw [cip_t ⟨j1, c2⟩] at hQ
  dsimp only at hQ
  rintro y6 rfl
  have hV1 : MV (uI I 83 0 0) V := hV.o
  refine br_c (fun c3 => ?_) (fun c3 => ?_)
  · have ey : brY V p = uI V 100 p 1 := by unfold brY; rw [cif_t c3]
    exact m_die2 hs w hp (by rw [ey]; exact hV1.u) (fun I' u' v' => hQ I' (UM.tr (UM.tr UM.u UM.u) u') v')
  · have ey : brY V p = uI (uI (uI (uI V 100 p 1) 101 (V 101 p).toNatClampNeg (-1)) 101 p (-1)) 102 (V 101 p).toNatClampNeg (bI (V 97 (V 101 p).toNatClampNeg = 0)) := by unfold brY; rw [cif_f c3]
    refine ⟨vpP w ((w.P.spo p hp).resolve_left c3) (by decide) (by decide), ?_⟩
    exact m_die2 hs w hp (by rw [ey]; exact hV1.u.u.u.u) (fun I' u' v' => hQ I' (UM.tr (UM.tr (UM.tr (UM.tr (UM.tr UM.u UM.u) UM.u) UM.u) UM.u) u') v')
end DI
