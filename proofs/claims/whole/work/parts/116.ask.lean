/-! update: ask -/
noncomputable def as0 (V : mI) (b g : Nat) : mI := uI (uI (uI (uI (uI (uI (uI V 106 0 (V 106 0 + 1)) 107 (cM V) (nI b)) 108 (cM V) (nI g)) 110 (cM V) (mgA V b g)) 111 (cM V) (mbA V b g)) 112 (cM V) 0) 113 (cM V) (V 88 0)
noncomputable def askV (V : mI) (b g : Nat) : mI := clsV (as0 V b g) (cM V) 0
noncomputable def askN (V : mI) (b g : Int32) : Int32 × mI := cip (cM V < 30 ∧ bgQ V b g ∧ frA V b.toNatClampNeg ∧ frA V g.toNatClampNeg ∧ mayA V b.toNatClampNeg g.toNatClampNeg) (V 106 0, askV V b.toNatClampNeg g.toNatClampNeg) (-1, V)
theorem ask_o {V : mI} {b g a : Nat} (h : a < 106 ∨ 114 < a) : askV V b g a = V a := by
  unfold askV
  rw [cls_o (by omega) (by omega)]
  unfold as0
  rw [uI_ne (by omega), uI_ne (by omega), uI_ne (by omega), uI_ne (by omega), uI_ne (by omega), uI_ne (by omega), uI_ne (by omega)]
theorem ask_107 {V : mI} {b g : Nat} : askV V b g 107 = upd (V 107) (cM V) (nI b) := by unfold askV; rw [cls_o (by decide) (by decide)]; unfold as0; simp (disch := decide) only [uI_ne, uI_at]
theorem ask_108 {V : mI} {b g : Nat} : askV V b g 108 = upd (V 108) (cM V) (nI g) := by unfold askV; rw [cls_o (by decide) (by decide)]; unfold as0; simp (disch := decide) only [uI_ne, uI_at]
theorem ask_109 {V : mI} {b g : Nat} : askV V b g 109 = upd (V 109) (cM V) 0 := by unfold askV; rw [cls_109]; unfold as0; simp (disch := decide) only [uI_ne]
theorem ask_110 {V : mI} {b g : Nat} : askV V b g 110 = upd (V 110) (cM V) (mgA V b g) := by unfold askV; rw [cls_o (by decide) (by decide)]; unfold as0; simp (disch := decide) only [uI_ne, uI_at]
theorem ask_111 {V : mI} {b g : Nat} : askV V b g 111 = upd (V 111) (cM V) (mbA V b g) := by unfold askV; rw [cls_o (by decide) (by decide)]; unfold as0; simp (disch := decide) only [uI_ne, uI_at]
theorem ask_112 {V : mI} {b g : Nat} : askV V b g 112 = upd (V 112) (cM V) 0 := by unfold askV; rw [cls_o (by decide) (by decide)]; unfold as0; simp (disch := decide) only [uI_ne, uI_at]
theorem ask_113 {V : mI} {b g : Nat} : askV V b g 113 = upd (V 113) (cM V) (V 88 0) := by unfold askV; rw [cls_o (by decide) (by decide)]; unfold as0; simp (disch := decide) only [uI_at, uI_ne]
theorem ask_114 {V : mI} {b g : Nat} : askV V b g 114 = upd (V 114) (cM V) (V 88 0) := by unfold askV; rw [cls_114]; unfold as0; simp (disch := decide) only [uI_ne]
theorem ask_n {V : mI} (w : Wf V) {b g : Nat} (h : cM V < 30) : cM (askV V b g) = cM V + 1 ∧ askV V b g 106 0 = nI (cM V + 1) := by
  have e : askV V b g 106 0 = nI (cM V + 1) := by
    unfold askV
    rw [cls_o (by decide) (by decide)]
    unfold as0
    simp (disch := decide) only [uI_ne, uI_eq]
    rw [w.M.n, nI_1]
  refine ⟨?_, e⟩
  have : (askV V b g 106 0).toNatClampNeg = cM V + 1 := by rw [e, nI_clamp (by omega)]
  exact this
theorem fr_no {V : mI} (w : Wf V) {p m : Nat} (h : frA V p) (hm : m < cM V) : hasB V p m = false := by
  have n30 := w.M.n30
  rcases opA_c V p with ⟨-, e⟩ | ⟨k, hk, -, -, e⟩
  · exact e m hm
  · have := h.2.2
    rw [e] at this
    exact absurd this (m1_nI (by omega))
theorem ask_op {V : mI} {b g k : Nat} : opB (askV V b g) k = if k = cM V then true else opB V k := by
  unfold opB
  rw [ask_109]
  unfold upd
  by_cases e : k = cM V
  · rw [if_pos e, if_pos e]; rfl
  · rw [if_neg e, if_neg e]
theorem ask_has {V : mI} {b g k p : Nat} (hk : k ≠ cM V) : hasB (askV V b g) p k = hasB V p k := by
  unfold hasB
  rw [ask_op, if_neg hk, ask_107, ask_108, upd_ne' hk, upd_ne' hk]
theorem ask_hasN {V : mI} {b g p : Nat} (hb : b < 20) (hg : g < 20) (hp : p < 20) : hasB (askV V b g) p (cM V) = true ↔ (p = b ∨ p = g) := by
  rw [hasB_iff, ask_109, ask_107, ask_108, upd_same', upd_same', upd_same']
  constructor
  · rintro ⟨-, e | e⟩
    · exact Or.inl ((nI_eq (by omega) (by omega)).mp e).symm
    · exact Or.inr ((nI_eq (by omega) (by omega)).mp e).symm
  · rintro (rfl | rfl)
    · exact ⟨Or.inl rfl, Or.inl rfl⟩
    · exact ⟨Or.inl rfl, Or.inr rfl⟩
theorem ask_opA {V : mI} (w : Wf V) {b g : Nat} (h : cM V < 30) (hb : b < 20) (hg : g < 20) (fb : frA V b) (fg : frA V g) {p : Nat} (hp : p < 20) : opA (askV V b g) p = if p = b ∨ p = g then nI (cM V) else opA V p := by
  have ec := (ask_n (b := b) (g := g) w h).1
  by_cases c : p = b ∨ p = g
  · rw [if_pos c]
    unfold opA
    rw [ec]
    refine fstI_y (by omega) ((ask_hasN hb hg hp).mpr c) (fun j hj => ?_)
    rw [ask_has (by omega)]
    rcases c with rfl | rfl
    · exact fr_no w fb hj
    · exact fr_no w fg hj
  · rw [if_neg c]
    have hn : hasB (askV V b g) p (cM V) = false := by
      cases e : hasB (askV V b g) p (cM V) with
      | false => rfl
      | true => exact absurd ((ask_hasN hb hg hp).mp e) c
    rcases opA_c V p with ⟨e, hh⟩ | ⟨k, hk, h1, h2, e⟩
    · rw [e]
      unfold opA
      rw [ec]
      refine fstI_n fun j hj => ?_
      by_cases ej : j = cM V
      · rw [ej]; exact hn
      · rw [ask_has ej]; exact hh j (by omega)
    · rw [e]
      unfold opA
      rw [ec]
      refine fstI_y (by omega) (by rw [ask_has (by omega)]; exact h1) (fun j hj => by rw [ask_has (by omega)]; exact h2 j hj)
theorem ask_wf {V : mI} (w : Wf V) {b g : Nat} (h : cM V < 30) (hb : b < cP V) (hg : g < cP V) (kb : V 97 b = 0) (kg : V 97 g = 1) (fb : frA V b) (fg : frA V g) : WfM (askV V b g) := by
  have n20 := w.P.n20
  obtain ⟨ec, en⟩ := ask_n (b := b) (g := g) w h
  have eP : cP (askV V b g) = cP V := by unfold cP; rw [ask_o (by omega)]
  have e97 : askV V b g 97 = V 97 := ask_o (by omega)
  refine ⟨by rw [ec]; exact en, by omega, fun k hk => ?_, fun k hk => ?_, fun k hk => ?_, fun k hk => ?_, fun k hk => ?_, fun k hk => ?_, fun k hk => ?_, fun k j hk hj h1 h2 h3 => ?_⟩
  · rw [ec] at hk; rw [eP, e97, ask_107]; unfold upd
    by_cases e : k = cM V
    · rw [if_pos e]; exact ⟨b, hb, rfl, kb⟩
    · rw [if_neg e]; exact w.M.bri k (by omega)
  · rw [ec] at hk; rw [eP, e97, ask_108]; unfold upd
    by_cases e : k = cM V
    · rw [if_pos e]; exact ⟨g, hg, rfl, kg⟩
    · rw [if_neg e]; exact w.M.gro k (by omega)
  · rw [ec] at hk; rw [ask_109]; unfold upd
    by_cases e : k = cM V
    · rw [if_pos e]; exact ⟨0, by decide, rfl⟩
    · rw [if_neg e]; exact w.M.sta k (by omega)
  · rw [ec] at hk; rw [ask_110]; unfold upd
    by_cases e : k = cM V
    · rw [if_pos e]
      exact mgA_ok w (by omega) (by omega)
    · rw [if_neg e]; exact w.M.gif k (by omega)
  · rw [ec] at hk; rw [ask_111]; unfold upd
    by_cases e : k = cM V
    · rw [if_pos e]
      exact mbA_ok w (by omega)
    · rw [if_neg e]; exact w.M.bac k (by omega)
  · rw [ec] at hk; rw [ask_109, ask_112]; unfold upd
    by_cases e : k = cM V
    · rw [if_pos e, if_pos e]; intro _; rfl
    · rw [if_neg e, if_neg e]; exact w.M.pa0 k (by omega)
  · rw [ec] at hk; rw [ask_109, ask_112, ask_110]; unfold upd
    by_cases e : k = cM V
    · rw [if_pos e]; intro z; exact absurd z (by decide)
    · rw [if_neg e, if_neg e, if_neg e]; exact w.M.pa1 k (by omega)
  · rw [ec] at hk hj
    rw [ask_op] at h1 h2
    rw [ask_107, ask_108] at h3
    unfold upd at h3
    have bad : ∀ {i : Nat}, i < cM V → opB V i = true → (nI b = V 107 i ∨ nI g = V 108 i) → False := fun {i} hi ho hh => by
      rcases hh with hh | hh
      · have := fr_no w fb hi
        rw [hasB_iff.mpr ⟨opB_iff.mp ho, Or.inl hh.symm⟩] at this
        exact absurd this (by decide)
      · have := fr_no w fg hi
        rw [hasB_iff.mpr ⟨opB_iff.mp ho, Or.inr hh.symm⟩] at this
        exact absurd this (by decide)
    by_cases e1 : k = cM V
    · by_cases e2 : j = cM V
      · omega
      · rw [if_neg e2] at h2
        rw [if_pos e1, if_pos e1, if_neg e2, if_neg e2] at h3
        exact (bad (by omega) h2 h3).elim
    · rw [if_neg e1] at h1
      by_cases e2 : j = cM V
      · rw [if_neg e1, if_neg e1, if_pos e2, if_pos e2] at h3
        exact (bad (by omega) h1 (h3.imp Eq.symm Eq.symm)).elim
      · rw [if_neg e2] at h2
        rw [if_neg e1, if_neg e1, if_neg e2, if_neg e2] at h3
        exact w.M.one k j (by omega) (by omega) h1 h2 h3
section AS
variable {E : Envt} {d : Nat} {Q : Pst} {h : mS} {I I' V V' : mI} {L : mL}
noncomputable def asI (I : mI) (b g n : Nat) (y x8 x9 : Int32) : mI := uI (uI (uI (uI (uI (uI (uI (uI (uI (uI (uI I 25 n (nI b)) 26 n (nI g)) 30 n 0) 31 n y) 27 n 0) 32 n y) 24 0 (nI n + 1)) 28 n x8) 29 n x9) 13 b (nI n)) 13 g (nI n)
theorem asI_o {b g n a : Nat} {y x8 x9 : Int32} (h1 : a ≠ 13) (h2 : a < 24 ∨ 32 < a) : asI I b g n y x8 x9 a = I a := by
  unfold asI
  rw [uI_ne (by omega), uI_ne (by omega), uI_ne (by omega), uI_ne (by omega), uI_ne (by omega), uI_ne (by omega), uI_ne (by omega), uI_ne (by omega), uI_ne (by omega), uI_ne (by omega), uI_ne (by omega)]
theorem ask_c (q : CQ h I V) {b g : Nat} (hM : cM V < 30) (hb : b < cP V) (hg : g < cP V) (kb : V 97 b = 0) (kg : V 97 g = 1) (fb : frA V b) (fg : frA V g) : CQ h (asI I b g (cM V) (V 88 0) (mgA V b g) (mbA V b g)) (askV V b g) := by
  have n20 := q.w.P.n20
  obtain ⟨ec, en⟩ := ask_n (b := b) (g := g) q.w hM
  have eP : cP (askV V b g) = cP V := by unfold cP; rw [ask_o (by omega)]
  have tI : ∀ a, (38 ≤ a ∧ a ≤ 45) ∨ 147 ≤ a → asI I b g (cM V) (V 88 0) (mgA V b g) (mbA V b g) a = I a := fun a ha => asI_o (by omega) (by omega)
  refine q.M' (fun a h1 h2 => asI_o h1 (by omega)) (fun a ha => ask_o (by omega)) ⟨fun i hi => ?_, trivial⟩ ⟨?_, ?_, ?_, ?_, ?_, ?_, ?_, ?_, ?_, fun k j hk h2 hj h6 => ?_⟩ ⟨fun x hx => ?_, fun k hk h2 => ?_, q.b.X.a, q.b.X.b⟩ (ask_wf q.w hM hb hg kb kg fb fg) (q.w.W.cv (fun a ha => ask_o (by omega)))
  · rw [eP] at hi
    rw [ask_opA q.w hM (by omega) (by omega) fb fg (by omega)]
    unfold asI
    simp (disch := decide) only [uI_ne, uI_at]
    unfold upd
    by_cases e1 : i = g
    · rw [if_pos e1, if_pos (Or.inr e1)]
    · rw [if_neg e1]
      by_cases e2 : i = b
      · rw [if_pos e2, if_pos (Or.inl e2)]
      · rw [if_neg e2, if_neg (fun e => e.elim e2 e1)]
        exact bO_op q.b i hi
  · rw [en]; unfold asI; simp (disch := decide) only [uI_ne, uI_eq]; rw [nI_1]
  · rw [ask_107]; unfold asI; simp (disch := decide) only [uI_ne, uI_at]; exact upE (bM_bri q.b)
  · rw [ask_108]; unfold asI; simp (disch := decide) only [uI_ne, uI_at]; exact upE (bM_gro q.b)
  · rw [ask_109]; unfold asI; simp (disch := decide) only [uI_ne, uI_at]; exact upE (bM_sta q.b)
  · rw [ask_110]; unfold asI; simp (disch := decide) only [uI_ne, uI_at]; exact upE (bM_gif q.b)
  · rw [ask_111]; unfold asI; simp (disch := decide) only [uI_ne, uI_at]; exact upE (bM_bac q.b)
  · rw [ask_112]; unfold asI; simp (disch := decide) only [uI_ne, uI_at]; exact upE (bM_pai q.b)
  · rw [ask_113]; unfold asI; simp (disch := decide) only [uI_ne, uI_at]; exact upE (bM_ask q.b)
  · rw [ask_114]; unfold asI; simp (disch := decide) only [uI_ne, uI_at]; exact upE (bM_sin q.b)
  · rw [ec] at hk
    rw [ask_109] at h2
    rw [ask_o (by omega)]
    have e33 : asI I b g (cM V) (V 88 0) (mgA V b g) (mbA V b g) 33 = I 33 := asI_o (by decide) (by omega)
    by_cases e : k = cM V
    · rw [e, upd_same'] at h2; exact absurd h2 (by decide)
    · rw [upd_ne' e] at h2
      show asI I b g (cM V) (V 88 0) (mgA V b g) (mbA V b g) 33 (11 * k + j) = _
      rw [e33]
      exact q.b.M.fac k j (by omega) h2 hj h6
  · obtain ⟨t, h1, h2⟩ := q.b.X.tx x hx
    exact ⟨t, h1, h2.cv (fun a _ _ => ask_o (by omega)) tI⟩
  · rw [ec] at hk
    rw [ask_109] at h2
    by_cases e : k = cM V
    · rw [e, upd_same'] at h2; exact absurd h2 (by decide)
    · rw [upd_ne' e] at h2
      obtain ⟨t, u, h1, h2, h3, h4⟩ := q.b.X.wt k (by omega) h2
      exact ⟨t, u, h1, h2.cv (fun a _ _ => ask_o (by omega)) tI, h3, h4.cv (fun a _ _ => ask_o (by omega)) tI⟩
theorem c_ask (q : CQ h I V) {b g : Int32} (hQ : ∀ I', UC I I' → CQ h I' (askN V b g).2 → Q (some (.int (askN V b g).1)) h I' L) : (CT E mX11_ask (d + 6) 0 0 [.ref (eB E + 0), .int b, .int g] h I L Q) := by
  have n20 := q.w.P.n20
  have n30 := q.w.M.n30
  have en := q.w.M.n
  unfold askN at hQ
  have no : (¬ (cM V < 30 ∧ bgQ V b g ∧ frA V b.toNatClampNeg ∧ frA V g.toNatClampNeg ∧ mayA V b.toNatClampNeg g.toNatClampNeg)) → ∀ I', UC I I' → CQ h I' V → Q (some (.int (-1))) h I' L := fun hn I' u' q' => by
    rw [cip_f hn] at hQ
    exact hQ I' u' q'
  refine w_X11_ask q.s _ _ ⟨fun c => vpP q.w ((cP_r q).mp c) (by decide) (by decide), fun _ c => vpP q.w ((cP_r q).mp c) (by decide) (by decide), br_c (fun c1 => ?_) (fun c1 => no (fun e => c1 ((bgC q).mpr e.2.1)) I UC.rf q)⟩
  have c1 := (bgC q).mp c1
  have j1 := c1
  obtain ⟨⟨⟨b, hb, rfl⟩, kb⟩, ⟨g, hg, rfl⟩, kg⟩ := c1
  have fB := c_free q.b q.w hb
  have fG := c_free q.b q.w hg
  have v1 : vp_in (nI b) 20 := vp_in_nI (by omega) (by decide)
  have v2 : vp_in (nI g) 20 := vp_in_nI (by omega) (by decide)
  rw [nI_clamp (by omega)] at kb kg
  rw [nI_clamp (show b < 2 ^ 31 by omega), nI_clamp (show g < 2 ^ 31 by omega)] at hQ no ⊢
  refine ⟨v1, br_c (fun c2 => ⟨v2, br_c (fun c3 => ?_) (fun c3 => no (fun e => c3 (fG.mpr e.2.2.2.1)) I UC.rf q)⟩) (fun c2 => no (fun e => c2 (fB.mpr e.2.2.1)) I UC.rf q)⟩
  have e30 : I 24 0 < 30 ↔ cM V < 30 := by rw [bM_n q.b, en, show (30 : Int32) = nI 30 from rfl, nI_lt' (by omega) (by decide)]
  refine br_c (fun c4 => no (fun e => c4 (e30.mpr e.1)) I UC.rf q) (fun c4 => ?_)
  have hM : cM V < 30 := e30.mp (Classical.not_not.mp c4)
  refine c_letsWed q hb hg (fun I1 jf k1 r8 r9 _ => qi_i ?_)
  have q1 : CQ h I1 V := q.fr jf.fr k1
  by_cases cm : mayA V b g
  · rw [cip_t ⟨hM, j1, fB.mp c2, fG.mp c3, cm⟩] at hQ
    dsimp only at hQ
    rw [cif_t cm]
    refine br_f (by decide) ?_
    have hin : vp_in (nI (cM V)) 30 := vp_in_nI hM (by decide)
    refine w_X4_add q.s _ _ _ ?_
    rw [bM_n q1.b, en, nI_clamp (show cM V < 2 ^ 31 by omega), bS_y q1.b]
    refine ⟨hin, w_X4_stand q.s _ _ _ ⟨hin, qv_i (qi_i ?_)⟩⟩
    rw [nI_clamp (show cM V < 2 ^ 31 by omega)]
    simp (disch := decide) only [uI_ne]
    rw [bM_n q1.b, en, r8, r9]
    have es : nI (cM V) + 1 - 1 = nI (cM V) := by simp
    rw [es, nI_clamp (show cM V < 2 ^ 31 by omega)]
    refine ⟨hin, v1, v2, ?_⟩
    have fin := hQ (asI I1 b g (cM V) (V 88 0) (mgA V b g) (mbA V b g)) (fun a ha => (asI_o (by omega) (by omega)).trans (jf.fr.uc a ha)) (ask_c q1 hM hb hg kb kg (fB.mp c2) (fG.mp c3))
    rw [en] at fin
    exact fin
  · rw [cif_f cm]
    exact br_t rfl (no (fun e => cm e.2.2.2.2) I1 jf.fr.uc q1)
theorem m_ask (hs : SL h) (w : Wf V) (hV : MV I V) {b g : Int32} (hQ : ∀ I', UM I I' → MV I' (askN V b g).2 → Q (some (.int (askN V b g).1)) h I' L) : (CT E mX12_ask (d + 5) 0 0 [.ref (eB E + 83), .int b, .int g] h I L Q) := by
  have n20 := w.P.n20
  have n30 := w.M.n30
  have en := w.M.n
  unfold askN at hQ
  have no : (¬ (cM V < 30 ∧ bgQ V b g ∧ frA V b.toNatClampNeg ∧ frA V g.toNatClampNeg ∧ mayA V b.toNatClampNeg g.toNatClampNeg)) → ∀ I', UM I I' → MV I' V → Q (some (.int (-1))) h I' L := fun hn I' u' v' => by
    rw [cip_f hn] at hQ
    exact hQ I' u' v'
  have hV1 : MV (uI I 83 0 0) V := hV.o
  have u1 : UM I (uI I 83 0 0) := UM.u
  refine w_X12_ask hs _ _ ?_
  have e30 : I 106 0 = 30 ↔ cM V = 30 := by rw [hV 106 (by decide) (by decide), show (30 : Int32) = nI 30 from rfl, en, nI_eq (by omega) (by decide)]
  refine br_c (fun c0 => no (fun e => by have := e30.mp c0; omega) _ u1 hV1) (fun c0 => ⟨fun c _ => vpP w ((mP_r w hV).mp c) (by decide) (by decide), fun _ c _ => vpP w ((mP_r w hV).mp c) (by decide) (by decide), br_c (fun c1 => ?_) (fun c1 => no (fun e => c1 ((bgM w hV).mpr e.2.1)) _ u1 hV1)⟩)
  have hM : cM V < 30 := by have : ¬ cM V = 30 := fun e => c0 (e30.mpr e); omega
  have c1 := (bgM w hV).mp c1
  have j1 := c1
  obtain ⟨⟨⟨b, hb, rfl⟩, kb⟩, ⟨g, hg, rfl⟩, kg⟩ := c1
  rw [nI_clamp (show b < 2 ^ 31 by omega), nI_clamp (show g < 2 ^ 31 by omega)] at hQ no
  refine m_isFree hs w hV1 (by omega) (qi_i ?_)
  by_cases f1 : frA V b
  · rw [cif_t f1]
    refine br_f (by decide) (m_isFree hs w hV1 (by omega) (qi_i ?_))
    by_cases f2 : frA V g
    · rw [cif_t f2]
      refine br_f (by decide) (m_mayWed hs w hV1 hb hg (fun I1 l1 r1 => qi_i ?_))
      have v1 : MV I1 V := hV1.fr l1.fr
      have u2 : UM I I1 := UM.tr u1 l1.fr.um
      by_cases cm : mayA V b g
      · rw [cif_t cm]
        obtain ⟨r66, r67⟩ := r1 cm
        rw [cip_t ⟨hM, j1, f1, f2, cm⟩] at hQ
        dsimp only at hQ
        refine br_f (by decide) ?_
        have hin : vp_in (nI (cM V)) 120 := vp_in_nI (by omega) (by decide)
        rw [v1 106 (by decide) (by decide), v1 88 (by decide) (by decide), r66, r67]
        refine ⟨by rw [en]; exact hin, ?_⟩
        have v2 : MV (uI (uI (uI (uI (uI (uI (uI I1 106 0 (V 106 0 + 1)) 107 (cM V) (nI b)) 108 (cM V) (nI g)) 110 (cM V) (mgA V b g)) 111 (cM V) (mbA V b g)) 112 (cM V) 0) 113 (cM V) (V 88 0)) (as0 V b g) := v1.u.u.u.u.u.u.u
        refine w_X12_comes hs _ _ ⟨by rw [en]; exact hin, qv_i ?_⟩
        have e88 := v2 88 (by decide) (by decide)
        have e88' : as0 V b g 88 = V 88 := by unfold as0; simp (disch := decide) only [uI_ne]
        have fin := hQ (uI (uI (uI (uI (uI (uI (uI (uI (uI I1 106 0 (V 106 0 + 1)) 107 (cM V) (nI b)) 108 (cM V) (nI g)) 110 (cM V) (mgA V b g)) 111 (cM V) (mbA V b g)) 112 (cM V) 0) 113 (cM V) (V 88 0)) 109 (cM V) 0) 114 (cM V) (as0 V b g 88 0)) (UM.tr u2 (UM.tr (UM.tr (UM.tr (UM.tr (UM.tr (UM.tr (UM.tr (UM.tr UM.u UM.u) UM.u) UM.u) UM.u) UM.u) UM.u) UM.u) UM.u)) v2.u.u
        rw [← e88] at fin
        exact fin
      · rw [cif_f cm]
        exact br_t rfl (no (fun e => cm e.2.2.2.2) I1 u2 v1)
    · rw [cif_f f2]
      exact br_t rfl (no (fun e => f2 e.2.2.2.1) _ u1 hV1)
  · rw [cif_f f1]
    exact br_t rfl (no (fun e => f1 e.2.2.1) _ u1 hV1)
end AS
