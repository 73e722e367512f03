/-! update: promise -/
def mbN (V : mI) (m : Nat) : Nat := (V 107 m).toNatClampNeg
def mgN (V : mI) (m : Nat) : Nat := (V 108 m).toNatClampNeg
theorem mb_ok {V : mI} (w : Wf V) {m : Nat} (hm : m < cM V) : mbN V m < cP V ∧ V 107 m = nI (mbN V m) ∧ V 97 (mbN V m) = 0 := by
  have n20 := w.P.n20
  obtain ⟨b, h1, h2, h3⟩ := w.M.bri m hm
  have e : mbN V m = b := by unfold mbN; rw [h2, nI_clamp (by omega)]
  rw [e]; exact ⟨h1, h2, h3⟩
theorem mg_ok {V : mI} (w : Wf V) {m : Nat} (hm : m < cM V) : mgN V m < cP V ∧ V 108 m = nI (mgN V m) ∧ V 97 (mgN V m) = 1 := by
  have n20 := w.P.n20
  obtain ⟨b, h1, h2, h3⟩ := w.M.gro m hm
  have e : mgN V m = b := by unfold mgN; rw [h2, nI_clamp (by omega)]
  rw [e]; exact ⟨h1, h2, h3⟩
noncomputable def prZ (V : mI) (m : Nat) : mI := clsV (uI V 112 m (V 110 m / 2)) m 1
theorem prZ_o {V : mI} {m a : Nat} (h1 : a ≠ 109) (h2 : a ≠ 112) (h3 : a ≠ 114) : prZ V m a = V a := by unfold prZ; rw [cls_o h1 h3, uI_ne h2]
theorem prZ_109 {V : mI} {m : Nat} : prZ V m 109 = upd (V 109) m 1 := by unfold prZ; rw [cls_109, uI_ne (by decide)]
theorem prZ_112 {V : mI} {m : Nat} : prZ V m 112 = upd (V 112) m (V 110 m / 2) := by unfold prZ; rw [cls_o (by decide) (by decide), uI_at]
theorem prZ_114 {V : mI} {m : Nat} : prZ V m 114 = upd (V 114) m (V 88 0) := by unfold prZ; rw [cls_114, uI_ne (by decide), uI_ne (by decide)]
theorem prZ_op {V : mI} {m k : Nat} (h0 : V 109 m = 0) : opB (prZ V m) k = opB V k := by
  unfold opB
  rw [prZ_109]
  unfold upd
  by_cases e : k = m
  · rw [if_pos e, e, h0]; rfl
  · rw [if_neg e]
theorem prZ_M {V : mI} {m : Nat} : cM (prZ V m) = cM V := by unfold cM; rw [prZ_o (by decide) (by decide) (by decide)]
theorem prZ_P {V : mI} {m : Nat} : cP (prZ V m) = cP V := by unfold cP; rw [prZ_o (by decide) (by decide) (by decide)]
theorem prZ_opA {V : mI} {m : Nat} (h0 : V 109 m = 0) (p : Nat) : opA (prZ V m) p = opA V p := by
  have : hasB (prZ V m) p = hasB V p := by
    funext k
    unfold hasB
    rw [prZ_op h0, prZ_o (by decide) (by decide) (by decide), prZ_o (by decide) (by decide) (by decide)]
  unfold opA
  rw [this, prZ_M]
theorem prZ_wf {V : mI} (w : WfM V) {m : Nat} (h0 : V 109 m = 0) : WfM (prZ V m) := by
  have o : ∀ {a}, a ≠ 109 → a ≠ 112 → a ≠ 114 → prZ V m a = V a := fun h1 h2 h3 => prZ_o h1 h2 h3
  refine ⟨by rw [prZ_M, o (by decide) (by decide) (by decide)]; exact w.n, by rw [prZ_M]; exact w.n30, fun k hk => ?_, fun k hk => ?_, fun k hk => ?_, fun k hk => ?_, fun k hk => ?_, fun k hk => ?_, fun k hk => ?_, fun k j hk hj => ?_⟩
  · rw [prZ_M] at hk; rw [prZ_P, o (by decide) (by decide) (by decide), o (by decide) (by decide) (by decide)]; exact w.bri k hk
  · rw [prZ_M] at hk; rw [prZ_P, o (by decide) (by decide) (by decide), o (by decide) (by decide) (by decide)]; exact w.gro k hk
  · rw [prZ_M] at hk; rw [prZ_109]; unfold upd; split
    · exact ⟨1, by decide, rfl⟩
    · exact w.sta k hk
  · rw [prZ_M] at hk; rw [o (by decide) (by decide) (by decide)]; exact w.gif k hk
  · rw [prZ_M] at hk; rw [o (by decide) (by decide) (by decide)]; exact w.bac k hk
  · rw [prZ_M] at hk; rw [prZ_109, prZ_112]; unfold upd
    by_cases e : k = m
    · rw [if_pos e, if_pos e]; intro z; exact absurd z (by decide)
    · rw [if_neg e, if_neg e]; exact w.pa0 k hk
  · rw [prZ_M] at hk; rw [prZ_109, prZ_112, o (by decide) (by decide) (by decide)]; unfold upd
    by_cases e : k = m
    · rw [if_pos e, if_pos e, e]; intro _; rfl
    · rw [if_neg e, if_neg e]; exact w.pa1 k hk
  · rw [prZ_M] at hk hj
    rw [prZ_op h0, prZ_op h0, o (by decide) (by decide) (by decide), o (by decide) (by decide) (by decide)]
    exact w.one k j hk hj
noncomputable def prmV (V : mI) (m : Nat) : mI := prZ (payV V (hN V (mgN V m)) (hN V (mbN V m)) (V 110 m / 2)) m
noncomputable def prmN (V : mI) (m : Int32) : Int32 × mI := cip (inN m (cM V) ∧ V 109 m.toNatClampNeg = 0 ∧ V 110 m.toNatClampNeg / 2 ≤ V 93 (hN V (mgN V m.toNatClampNeg))) (1, prmV V m.toNatClampNeg) (0, V)
section PR
variable {E : Envt} {d : Nat} {Q : Pst} {h : mS} {I I' V V' : mI} {L : mL}
theorem prZ_c (q : CQ h I V) {m : Nat} (hm : m < cM V) (h0 : V 109 m = 0) : CQ h (uI (uI (uI I 30 m (V 110 m / 2)) 27 m 1) 32 m (V 88 0)) (prZ V m) := by
  have o : ∀ {a}, a ≠ 109 → a ≠ 112 → a ≠ 114 → prZ V m a = V a := fun h1 h2 h3 => prZ_o h1 h2 h3
  have tI : ∀ a, (38 ≤ a ∧ a ≤ 45) ∨ 147 ≤ a → uI (uI (uI I 30 m (V 110 m / 2)) 27 m 1) 32 m (V 88 0) a = I a := fun a ha => by rw [uI_ne (by omega), uI_ne (by omega), uI_ne (by omega)]
  refine q.M' (fun a h1 h2 => by rw [uI_ne (by omega), uI_ne (by omega), uI_ne (by omega)]) (fun a ha => o (by omega) (by omega) (by omega)) ⟨fun i hi => ?_, trivial⟩ ⟨?_, ?_, ?_, ?_, ?_, ?_, ?_, ?_, ?_, fun k j hk h2 hj h6 => ?_⟩ ⟨fun x hx => ?_, fun k hk h2 => ?_, q.b.X.a, q.b.X.b⟩ (prZ_wf q.w.M h0) (q.w.W.cv (fun a ha => o (by omega) (by omega) (by omega)))
  · rw [prZ_P] at hi
    rw [prZ_opA h0]; simp (disch := decide) only [uI_ne]; exact bO_op q.b i hi
  · rw [o (by decide) (by decide) (by decide)]; simp (disch := decide) only [uI_ne]; exact bM_n q.b
  · rw [o (by decide) (by decide) (by decide)]; simp (disch := decide) only [uI_ne]; exact bM_bri q.b
  · rw [o (by decide) (by decide) (by decide)]; simp (disch := decide) only [uI_ne]; exact bM_gro q.b
  · rw [prZ_109]; simp (disch := decide) only [uI_ne, uI_at]; exact upE (bM_sta q.b)
  · rw [o (by decide) (by decide) (by decide)]; simp (disch := decide) only [uI_ne]; exact bM_gif q.b
  · rw [o (by decide) (by decide) (by decide)]; simp (disch := decide) only [uI_ne]; exact bM_bac q.b
  · rw [prZ_112]; simp (disch := decide) only [uI_ne, uI_at]; exact upE (bM_pai q.b)
  · rw [o (by decide) (by decide) (by decide)]; simp (disch := decide) only [uI_ne]; exact bM_ask q.b
  · rw [prZ_114]; simp (disch := decide) only [uI_ne, uI_at]; exact upE (bM_sin q.b)
  · rw [prZ_M] at hk
    rw [prZ_109] at h2
    rw [o (by decide) (by decide) (by decide)]; simp (disch := decide) only [uI_ne]
    by_cases e : k = m
    · rw [e, upd_same'] at h2; exact absurd h2 (by decide)
    · rw [upd_ne' e] at h2; exact q.b.M.fac k j hk h2 hj h6
  · obtain ⟨t, h1, h2⟩ := q.b.X.tx x hx
    exact ⟨t, h1, h2.cv (fun a _ _ => o (by omega) (by omega) (by omega)) tI⟩
  · rw [prZ_M] at hk
    rw [prZ_109] at h2
    by_cases e : k = m
    · rw [e, upd_same'] at h2; exact absurd h2 (by decide)
    · rw [upd_ne' e] at h2
      obtain ⟨t, u, h1, h2, h3, h4⟩ := q.b.X.wt k hk h2
      exact ⟨t, u, h1, h2.cv (fun a _ _ => o (by omega) (by omega) (by omega)) tI, h3, h4.cv (fun a _ _ => o (by omega) (by omega) (by omega)) tI⟩
theorem vpM {n : Nat} {x : Int32} (w : Wf V) (hx : inN x (cM V)) (h1 : 30 ≤ n) (h2 : n < 2 ^ 31) : vp_in x n := by
  have n30 := w.M.n30
  obtain ⟨j, hj, rfl⟩ := hx
  exact vp_in_nI (by omega) h2
theorem c_promise (q : CQ h I V) {m : Int32} (hQ : ∀ I', UC I I' → CQ h I' (prmN V m).2 → Q (some (.int (prmN V m).1)) h I' L) : (CT E mX11_promise (d + 2) 0 0 [.ref (eB E + 0), .int m] h I L Q) := by
  have n20 := q.w.P.n20
  have n30 := q.w.M.n30
  unfold prmN at hQ
  have no : (¬ (inN m (cM V) ∧ V 109 m.toNatClampNeg = 0 ∧ V 110 m.toNatClampNeg / 2 ≤ V 93 (hN V (mgN V m.toNatClampNeg)))) → Q (some (.int 0)) h I L := fun hn => by
    rw [cip_f hn] at hQ
    exact hQ I UC.rf q
  refine w_X11_promise q.s _ ⟨fun c => vpM q.w ((cM_r q).mp c) (by decide) (by decide), br_c (fun c => ?_) (fun c => no fun e => c ⟨(cM_r q).mpr e.1, ?_⟩)⟩
  · have i1 := (cM_r q).mp c.1
    have c2 := c.2
    have j1 := i1
    obtain ⟨m, hm, rfl⟩ := i1
    have hin : vp_in (nI m) 30 := vp_in_nI (by omega) (by decide)
    rw [nI_clamp (by omega)] at hQ no c2 ⊢
    rw [bM_sta q.b m (by omega)] at c2
    obtain ⟨b1, b2, -⟩ := mb_ok q.w hm
    obtain ⟨g1, g2, -⟩ := mg_ok q.w hm
    obtain ⟨hb8, ehb⟩ := hN_ok q.w (p := mbN V m) (by omega)
    obtain ⟨hg8, ehg⟩ := hN_ok q.w (p := mgN V m) (by omega)
    refine ⟨hin, ?_⟩
    rintro y6 rfl
    rw [bM_gif q.b m (by omega), bM_gro q.b m (by omega), bM_bri q.b m (by omega), b2, g2, nI_clamp (show mbN V m < 2 ^ 31 by omega), nI_clamp (show mgN V m < 2 ^ 31 by omega), bP_hou q.b _ (show mgN V m < 20 by omega), bP_hou q.b _ (show mbN V m < 20 by omega), ehb, ehg]
    refine ⟨hin, vp_in_nI (by omega) (by decide), vp_in_nI (by omega) (by decide), ?_⟩
    refine c_pay q hg8 hb8 (fun c3 I1 f1 q1 => qi_i ?_) (fun c3 => qi_i (br_t rfl (no fun e => c3 e.2.2)))
    refine br_f (by decide) ?_
    rw [cip_t ⟨j1, c2, c3⟩] at hQ
    refine w_X4_stand q.s _ _ _ ⟨hin, qv_i ?_⟩
    rw [nI_clamp (by omega), bS_y q1.b]
    have p := prZ_c q1 (m := m) (by show m < cM (payV V _ _ _); unfold cM; rw [pay_o (by decide)]; exact hm) (by rw [pay_o (by decide)]; exact c2)
    have e110 : payV V (hN V (mgN V m)) (hN V (mbN V m)) (V 110 m / 2) 110 = V 110 := pay_o (by decide)
    rw [e110] at p
    exact hQ _ (fun a ha => by rw [uI_ne (by omega), uI_ne (by omega), uI_ne (by omega)]; exact f1 a (by omega)) p
  · have n := e.2.1
    obtain ⟨m, hm, rfl⟩ := e.1
    rw [nI_clamp (by omega)] at n ⊢
    rw [bM_sta q.b m (by omega)]; exact n
theorem m_promise (hs : SL h) (w : Wf V) (hV : MV I V) {m : Int32} (hQ : ∀ I', UM I I' → MV I' (prmN V m).2 → Q (some (.int (prmN V m).1)) h I' L) : (CT E mX12_promise (d + 2) 0 0 [.ref (eB E + 83), .int m] h I L Q) := by
  have n20 := w.P.n20
  have n30 := w.M.n30
  unfold prmN at hQ
  have no : (¬ (inN m (cM V) ∧ V 109 m.toNatClampNeg = 0 ∧ V 110 m.toNatClampNeg / 2 ≤ V 93 (hN V (mgN V m.toNatClampNeg)))) → Q (some (.int 0)) h (uI I 83 0 0) L := fun hn => by
    rw [cip_f hn] at hQ
    exact hQ _ UM.u hV.o
  refine w_X12_promise hs _ (br_c (fun c1 => ?_) (fun c1 => no fun e => c1 ((mM_r w hV).mpr e.1)))
  have i1 := (mM_r w hV).mp c1
  have j1 := i1
  obtain ⟨m, hm, rfl⟩ := i1
  have hin : vp_in (nI m) 120 := vp_in_nI (by omega) (by decide)
  rw [nI_clamp (by omega)] at hQ no ⊢
  rw [hV 109 (by decide) (by decide), hV 110 (by decide) (by decide)]
  refine ⟨hin, br_c (fun c2 => ?_) (fun c2 => no fun e => c2 e.2.1)⟩
  obtain ⟨b1, b2, -⟩ := mb_ok w hm
  obtain ⟨g1, g2, -⟩ := mg_ok w hm
  obtain ⟨hb8, ehb⟩ := hN_ok w (p := mbN V m) (by omega)
  obtain ⟨hg8, ehg⟩ := hN_ok w (p := mgN V m) (by omega)
  have hV1 : MV (uI I 83 0 0) V := hV.o
  refine w_X12_pays hs _ _ ⟨hin, ?_⟩
  rw [nI_clamp (by omega), hV1 108 (by decide) (by decide), hV1 107 (by decide) (by decide), hV1 96 (by decide) (by decide), hV1 93 (by decide) (by decide), hV1 112 (by decide) (by decide), b2, g2, nI_clamp (show mbN V m < 2 ^ 31 by omega), nI_clamp (show mgN V m < 2 ^ 31 by omega), ehb]
  refine ⟨vp_in_nI (by omega) (by decide), ?_⟩
  rintro y3 rfl
  rw [ehg, nI_clamp (show hN V (mbN V m) < 2 ^ 31 by omega), nI_clamp (show hN V (mgN V m) < 2 ^ 31 by omega)]
  refine ⟨vp_in_nI (by omega) (by decide), br_c (fun c3 => ⟨vp_in_nI (by omega) (by decide), vp_in_nI (by omega) (by decide), qi_i ?_⟩) (fun c3 => qi_i (br_t rfl (no fun e => c3 e.2.2)))⟩
  refine br_f (by decide) ?_
  rw [cip_t ⟨j1, c2, c3⟩] at hQ
  dsimp only at hQ
  rw [w.M.pa0 m hm c2]
  have ez : (0 : Int32) + V 110 m / 2 = V 110 m / 2 := by simp
  rw [ez]
  have e110 : payV V (hN V (mgN V m)) (hN V (mbN V m)) (V 110 m / 2) 110 = V 110 := pay_o (by decide)
  unfold prmV prZ at hQ
  rw [e110] at hQ
  refine w_X12_comes hs _ _ ⟨hin, qv_i ?_⟩
  rw [nI_clamp (by omega)]
  have v1 : MV (uI (uI (uI (uI I 83 0 0) 93 (hN V (mgN V m)) (V 93 (hN V (mgN V m)) - V 110 m / 2)) 93 (hN V (mbN V m)) (uI (uI I 83 0 0) 93 (hN V (mgN V m)) (V 93 (hN V (mgN V m)) - V 110 m / 2) 93 (hN V (mbN V m)) + V 110 m / 2)) 112 m (V 110 m / 2)) (uI (payV V (hN V (mgN V m)) (hN V (mbN V m)) (V 110 m / 2)) 112 m (V 110 m / 2)) := by
    unfold payV
    rw [uI_at, uI_at, hV1 93 (by decide) (by decide)]
    exact hV1.u.u.u
  have e88 := v1 88 (by decide) (by decide)
  rw [e88]
  exact hQ _ (UM.tr (UM.tr (UM.tr (UM.tr (UM.tr UM.u UM.u) UM.u) UM.u) UM.u) UM.u) v1.u.u
end PR
