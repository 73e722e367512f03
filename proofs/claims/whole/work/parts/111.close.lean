/-! a match comes to an end -/
noncomputable def clsV (V : mI) (m : Nat) (s : Int32) : mI := uI (uI V 109 m s) 114 m (V 88 0)
theorem cls_o {V : mI} {m a : Nat} {s : Int32} (h1 : a ≠ 109) (h2 : a ≠ 114) : clsV V m s a = V a := by unfold clsV; rw [uI_ne h2, uI_ne h1]
theorem cls_109 {V : mI} {m : Nat} {s : Int32} : clsV V m s 109 = upd (V 109) m s := by unfold clsV; rw [uI_ne (by decide), uI_at]
theorem cls_114 {V : mI} {m : Nat} {s : Int32} : clsV V m s 114 = upd (V 114) m (V 88 0) := by unfold clsV; rw [uI_at, uI_ne (by decide)]
def dnS (s : Int32) : Prop := s = 3 ∨ s = 4
theorem dnS.n {s : Int32} (h : dnS s) : ¬ s = 0 ∧ ¬ s = 1 ∧ ¬ s = 2 := by
  rcases h with rfl | rfl
  · exact ⟨by decide, by decide, by decide⟩
  · exact ⟨by decide, by decide, by decide⟩
theorem dnS.i {s : Int32} (h : dnS s) : inN s 5 := by
  rcases h with rfl | rfl
  · exact ⟨3, by decide, rfl⟩
  · exact ⟨4, by decide, rfl⟩
theorem cls_op {V : mI} {m k : Nat} {s : Int32} (hs : dnS s) : opB (clsV V m s) k = if k = m then false else opB V k := by
  unfold opB
  rw [cls_109]
  unfold upd
  by_cases e : k = m
  · rw [if_pos e, if_pos e]
    simp [hs.n.1, hs.n.2.1]
  · rw [if_neg e, if_neg e]
theorem cls_has {V : mI} {m k p : Nat} {s : Int32} (hs : dnS s) : hasB (clsV V m s) p k = if k = m then false else hasB V p k := by
  unfold hasB
  rw [cls_op hs, cls_o (by decide) (by decide), cls_o (by decide) (by decide)]
  by_cases e : k = m
  · rw [if_pos e, if_pos e]; rfl
  · rw [if_neg e, if_neg e]
theorem cls_M {V : mI} {m : Nat} {s : Int32} : cM (clsV V m s) = cM V := by unfold cM; rw [cls_o (by decide) (by decide)]
theorem cls_P {V : mI} {m : Nat} {s : Int32} : cP (clsV V m s) = cP V := by unfold cP; rw [cls_o (by decide) (by decide)]
theorem cls_wf {V : mI} (w : WfM V) {m : Nat} {s : Int32} (hs : dnS s) : WfM (clsV V m s) := by
  have o : ∀ {a}, a ≠ 109 → a ≠ 114 → clsV V m s a = V a := fun h1 h2 => cls_o h1 h2
  refine ⟨by rw [cls_M, o (by decide) (by decide)]; exact w.n, by rw [cls_M]; exact w.n30, fun k hk => ?_, fun k hk => ?_, fun k hk => ?_, fun k hk => ?_, fun k hk => ?_, fun k hk => ?_, fun k hk => ?_, fun k j hk hj => ?_⟩
  · rw [cls_M] at hk; rw [cls_P, o (by decide) (by decide), o (by decide) (by decide)]; exact w.bri k hk
  · rw [cls_M] at hk; rw [cls_P, o (by decide) (by decide), o (by decide) (by decide)]; exact w.gro k hk
  · rw [cls_M] at hk; rw [cls_109]; unfold upd; split
    · exact hs.i
    · exact w.sta k hk
  · rw [cls_M] at hk; rw [o (by decide) (by decide)]; exact w.gif k hk
  · rw [cls_M] at hk; rw [o (by decide) (by decide)]; exact w.bac k hk
  · rw [cls_M] at hk; rw [cls_109, o (by decide) (by decide)]; unfold upd; split
    · intro e; exact absurd e hs.n.1
    · exact w.pa0 k hk
  · rw [cls_M] at hk; rw [cls_109, o (by decide) (by decide), o (by decide) (by decide)]; unfold upd; split
    · intro e; exact absurd e hs.n.2.1
    · exact w.pa1 k hk
  · rw [cls_M] at hk hj
    rw [cls_op hs, cls_op hs, o (by decide) (by decide), o (by decide) (by decide)]
    intro h1 h2
    by_cases e1 : k = m
    · rw [if_pos e1] at h1; exact absurd h1 (by decide)
    · by_cases e2 : j = m
      · rw [if_pos e2] at h2; exact absurd h2 (by decide)
      · rw [if_neg e1] at h1; rw [if_neg e2] at h2
        exact w.one k j hk hj h1 h2
/-- whose match it is -/
theorem own_one {V : mI} (w : Wf V) {m k p : Nat} (hm : m < cM V) (hk : k < cM V) (h1 : hasB V p m = true) (h2 : hasB V p k = true) : m = k := by
  have n20 := w.P.n20
  rw [hasB_iff] at h1 h2
  obtain ⟨o1, p1⟩ := h1
  obtain ⟨o2, p2⟩ := h2
  have noB : ∀ {a b : Nat}, a < cM V → b < cM V → V 107 a = nI p → V 108 b = nI p → False := fun {a b} ha hb e1 e2 => by
    obtain ⟨z, g1, g2, g3⟩ := w.M.bri a ha
    obtain ⟨z', g4, g5, g6⟩ := w.M.gro b hb
    have i1 : nI z = nI z' := by rw [← g2, ← g5, e1, e2]
    have i2 := (nI_eq (by omega) (by omega)).mp i1
    rw [← i2, g3] at g6
    exact absurd g6 (by decide)
  rcases p1 with p1 | p1 <;> rcases p2 with p2 | p2
  · exact w.M.one m k hm hk (opB_iff.mpr o1) (opB_iff.mpr o2) (Or.inl (p1.trans p2.symm))
  · exact (noB hm hk p1 p2).elim
  · exact (noB hk hm p2 p1).elim
  · exact w.M.one m k hm hk (opB_iff.mpr o1) (opB_iff.mpr o2) (Or.inr (p1.trans p2.symm))
theorem cls_opA {V : mI} (w : Wf V) {m : Nat} {s : Int32} (hm : m < cM V) (hs : dnS s) (p : Nat) : opA (clsV V m s) p = if hasB V p m = true then (-1) else opA V p := by
  by_cases c : hasB V p m = true
  · rw [if_pos c]
    unfold opA
    refine fstI_n fun k hk => ?_
    rw [cls_M] at hk
    rw [cls_has hs]
    by_cases e : k = m
    · rw [if_pos e]
    · rw [if_neg e]
      cases c2 : hasB V p k with
      | false => rfl
      | true => exact absurd (own_one w hm hk c c2).symm e
  · rw [if_neg c]
    have : hasB (clsV V m s) p = hasB V p := by
      funext k
      rw [cls_has hs]
      by_cases e : k = m
      · rw [if_pos e, e]; simp at c; exact c.symm
      · rw [if_neg e]
    unfold opA
    rw [this, cls_M]
section CL
variable {E : Envt} {d : Nat} {Q : Pst} {h : mS} {I I' V V' : mI} {L : mL}
theorem CQ.M' (q : CQ h I V) (hI : ∀ a, a ≠ 13 → a < 24 ∨ 33 < a → I' a = I a) (hV : ∀ a, a < 106 ∨ 115 < a → V' a = V a) (o : BkO I' 1 V') (b : BkM I' 1 V') (x : BkX h I' 1 V') (w : WfM V') (ww : WfW V') : CQ h I' V' :=
  ⟨q.s, ⟨q.b.S.cv (fun a ha => hV a (by omega)) (fun a ha => hI a (by omega) (by omega)), q.b.H.cv (fun a ha => hV a (by omega)) (fun a ha => hI a (by omega) (by omega)), q.b.P.cv (fun a ha => hV a (by omega)) (fun a ha => hI a (by omega) (by omega)), o, q.b.N.cv (fun a ha => hV a (by omega)) (fun a ha => hI a (by omega) (by omega)), b, x⟩,
   ⟨q.w.S.cv (fun a ha => hV a (by omega)), q.w.H.cv (fun a ha => hV a (by omega)), q.w.P.cv (fun a ha => hV a (by omega)), q.w.N.cv (fun a ha => hV a (by omega)), q.w.R.cv (fun a ha => hV a (by omega)), w, q.w.T.cv (fun a ha => hV a (by omega)), ww⟩,
   q.k.cv (hI 57 (by omega) (by omega)) (hI 58 (by omega) (by omega)) (hV 89 (by omega)) (hV 104 (by omega)) (hV 105 (by omega)) (fun k _ => by rw [hV 97 (by omega)])⟩
theorem cls_cq (q : CQ h I V) {m b g : Nat} {s : Int32} (hm : m < cM V) (ho : opB V m = true) (hs : dnS s) (b1 : b < cP V) (b2 : V 107 m = nI b) (g1 : g < cP V) (g2 : V 108 m = nI g) : CQ h (uI (uI (uI (uI I 13 b (-1)) 13 g (-1)) 27 m s) 32 m (V 88 0)) (clsV V m s) := by
  have n30 := q.w.M.n30
  have n20 := q.w.P.n20
  refine q.M' (fun a h1 h2 => by rw [uI_ne (by omega), uI_ne (by omega), uI_ne h1, uI_ne h1]) (fun a ha => cls_o (by omega) (by omega)) ⟨fun i hi => ?_, trivial⟩ ⟨?_, ?_, ?_, ?_, ?_, ?_, ?_, ?_, ?_, fun k j hk h2 hj h6 => ?_⟩ ⟨fun x hx => ?_, fun k hk h2 => ?_, q.b.X.a, q.b.X.b⟩ (cls_wf q.w.M hs) (q.w.W.cv (fun a ha => cls_o (by omega) (by omega)))
  · rw [cls_P] at hi
    rw [cls_opA q.w hm hs]
    simp (disch := decide) only [uI_ne, uI_at]
    unfold upd
    have key : hasB V i m = true ↔ (i = g ∨ i = b) := by
      rw [hasB_iff, b2, g2]
      constructor
      · rintro ⟨-, e | e⟩
        · exact Or.inr ((nI_eq (by omega) (by omega)).mp e).symm
        · exact Or.inl ((nI_eq (by omega) (by omega)).mp e).symm
      · rintro (rfl | rfl)
        · exact ⟨opB_iff.mp ho, Or.inr rfl⟩
        · exact ⟨opB_iff.mp ho, Or.inl rfl⟩
    by_cases e1 : i = g
    · rw [if_pos e1, if_pos (key.mpr (Or.inl e1))]
    · rw [if_neg e1]
      by_cases e2 : i = b
      · rw [if_pos e2, if_pos (key.mpr (Or.inr e2))]
      · rw [if_neg e2, if_neg (fun e => (key.mp e).elim e1 e2)]
        exact bO_op q.b i hi
  · rw [cls_o (by decide) (by decide)]; simp (disch := decide) only [uI_ne]; exact bM_n q.b
  · rw [cls_o (by decide) (by decide)]; simp (disch := decide) only [uI_ne]; exact bM_bri q.b
  · rw [cls_o (by decide) (by decide)]; simp (disch := decide) only [uI_ne]; exact bM_gro q.b
  · rw [cls_109]; simp (disch := decide) only [uI_ne, uI_at]; exact upE (bM_sta q.b)
  · rw [cls_o (by decide) (by decide)]; simp (disch := decide) only [uI_ne]; exact bM_gif q.b
  · rw [cls_o (by decide) (by decide)]; simp (disch := decide) only [uI_ne]; exact bM_bac q.b
  · rw [cls_o (by decide) (by decide)]; simp (disch := decide) only [uI_ne]; exact bM_pai q.b
  · rw [cls_o (by decide) (by decide)]; simp (disch := decide) only [uI_ne]; exact bM_ask q.b
  · rw [cls_114]; simp (disch := decide) only [uI_ne, uI_at]; exact upE (bM_sin q.b)
  · rw [cls_M] at hk
    rw [cls_109] at h2
    rw [cls_o (by decide) (by decide)]; simp (disch := decide) only [uI_ne]
    by_cases e : k = m
    · rw [e, upd_same'] at h2; exact absurd h2 hs.n.2.2
    · rw [upd_ne' e] at h2; exact q.b.M.fac k j hk h2 hj h6
  · obtain ⟨t, h1, h2⟩ := q.b.X.tx x hx
    exact ⟨t, h1, h2.cv (fun a _ _ => cls_o (by omega) (by omega)) (fun a ha => by rw [uI_ne (by omega), uI_ne (by omega), uI_ne (by omega), uI_ne (by omega)])⟩
  · rw [cls_M] at hk
    rw [cls_109] at h2
    by_cases e : k = m
    · rw [e, upd_same'] at h2; exact absurd h2 hs.n.2.2
    · rw [upd_ne' e] at h2
      obtain ⟨t, u, h1, h2, h3, h4⟩ := q.b.X.wt k hk h2
      exact ⟨t, u, h1, h2.cv (fun a _ _ => cls_o (by omega) (by omega)) (fun a ha => by rw [uI_ne (by omega), uI_ne (by omega), uI_ne (by omega), uI_ne (by omega)]), h3, h4.cv (fun a _ _ => cls_o (by omega) (by omega)) (fun a ha => by rw [uI_ne (by omega), uI_ne (by omega), uI_ne (by omega), uI_ne (by omega)])⟩
theorem c_close (q : CQ h I V) {m : Nat} {s : Int32} (hm : m < cM V) (ho : opB V m = true) (hs : dnS s) (hQ : ∀ I', (∀ a, a ≠ 13 → a ≠ 27 → a ≠ 32 → I' a = I a) → CQ h I' (clsV V m s) → Q none h I' L) : (CT E mX11_closeMatch (d + 1) 0 0 [.ref (eB E + 0), .int (nI m), .int s] h I L Q) := by
  have n30 := q.w.M.n30
  have n20 := q.w.P.n20
  obtain ⟨b, b1, b2, b3⟩ := q.w.M.bri m hm
  obtain ⟨g, g1, g2, g3⟩ := q.w.M.gro m hm
  have hin : vp_in (nI m) 30 := vp_in_nI (by omega) (by decide)
  refine w_X11_closeMatch q.s _ _ ?_
  rw [nI_clamp (show m < 2 ^ 31 by omega), bM_bri q.b m (by omega), bM_gro q.b m (by omega), b2, g2, nI_clamp (show b < 2 ^ 31 by omega), nI_clamp (show g < 2 ^ 31 by omega), bS_y q.b]
  refine ⟨hin, vp_in_nI (by omega) (by decide), vp_in_nI (by omega) (by decide), w_X4_stand q.s _ _ _ ⟨hin, qv_i ?_⟩⟩
  rw [nI_clamp (show m < 2 ^ 31 by omega)]
  exact hQ _ (fun a h1 h2 h3 => by rw [uI_ne h3, uI_ne h2, uI_ne h1, uI_ne h1]) (cls_cq q hm ho hs b1 b2 g1 g2)
theorem c_closeR (hs0 : SL h) {m b g : Nat} {s : Int32} (hm : m < 30) (hb : b < 20) (hg : g < 20) (e25 : I 25 m = nI b) (e26 : I 26 m = nI g) (hQ : Q none h (uI (uI (uI (uI I 13 b (-1)) 13 g (-1)) 27 m s) 32 m (I 1 0)) L) : (CT E mX11_closeMatch (d + 1) 0 0 [.ref (eB E + 0), .int (nI m), .int s] h I L Q) := by
  have hin : vp_in (nI m) 30 := vp_in_nI (by omega) (by decide)
  refine w_X11_closeMatch hs0 _ _ ?_
  rw [nI_clamp (show m < 2 ^ 31 by omega), e25, e26, nI_clamp (show b < 2 ^ 31 by omega), nI_clamp (show g < 2 ^ 31 by omega)]
  refine ⟨hin, vp_in_nI (by omega) (by decide), vp_in_nI (by omega) (by decide), w_X4_stand hs0 _ _ _ ⟨hin, qv_i ?_⟩⟩
  rw [nI_clamp (show m < 2 ^ 31 by omega)]
  exact hQ
theorem m_comes (hs : SL h) (w : Wf V) (hV : MV I V) {m : Nat} {s : Int32} (hm : m < cM V) (hQ : ∀ I', UM I I' → MV I' (clsV V m s) → Q none h I' L) : (CT E mX12_comes d 0 0 [.ref (eB E + 83), .int (nI m), .int s] h I L Q) := by
  have n30 := w.M.n30
  refine w_X12_comes hs _ _ ?_
  rw [nI_clamp (by omega), hV 88 (by decide) (by decide)]
  exact ⟨vp_in_nI (by omega) (by decide), hQ _ (UM.tr UM.u UM.u) hV.u.u⟩
end CL
