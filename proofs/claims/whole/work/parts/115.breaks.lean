/-! update: breaks -/
theorem wide_div {a b : Nat} (ha : a < 80000) (hb : b < 101) : ((nI a).toInt64 * (nI b).toInt64 / 100).toInt32 = nI a * nI b / 100 := by
  have hab : a * b ≤ 80000 * 100 := Nat.mul_le_mul (by omega) (by omega)
  have e100 : (100 : Int32) = nI 100 := rfl
  rw [e100, pk_mul, nI_div (by omega) (by decide) (by decide)]
  refine Int32.toInt_inj.mp ?_
  have em : ((nI a).toInt64 * (nI b).toInt64).toInt = ((a * b : Nat) : Int) := by
    rw [Int64.toInt_mul, Int32.toInt_toInt64, Int32.toInt_toInt64, nI_toInt (by omega), nI_toInt (by omega), ← Int.natCast_mul]
    generalize a * b = c at hab
    exact Int.bmod_eq_of_le (by omega) (by omega)
  rw [Int64.toInt_toInt32, Int64.toInt_div, em, nI_toInt (by omega)]
  generalize a * b = c at hab
  have e1 : (100 : Int64).toInt = 100 := by decide
  rw [e1]
  have e : Int.tdiv (c : Int) 100 = ((c / 100 : Nat) : Int) := by
    rw [Int.tdiv_eq_ediv_of_nonneg (by omega)]; omega
  rw [e]
  have b1 : Int.bmod ((c / 100 : Nat) : Int) (2 ^ 64) = ((c / 100 : Nat) : Int) := Int.bmod_eq_of_le (by omega) (by omega)
  rw [b1]
  exact Int.bmod_eq_of_le (by omega) (by omega)
noncomputable def brkY (V : mI) (m : Nat) : Int32 := V 112 m + V 112 m * V 111 m / 100
noncomputable def brkP (V : mI) (m : Nat) : mI := clsV (uI (payV V (hN V (mbN V m)) (hN V (mgN V m)) (brkY V m)) 112 m 0) m 3
noncomputable def brkN (V : mI) (m x : Int32) : Int32 × mI := cip (inN m (cM V) ∧ opB V m.toNatClampNeg = true) (cip (x = 0 ∨ ¬ V 109 m.toNatClampNeg = 1) (1, clsV V m.toNatClampNeg 3) (cip (brkY V m.toNatClampNeg ≤ V 93 (hN V (mbN V m.toNatClampNeg))) (1, brkP V m.toNatClampNeg) (0, V))) (0, V)
section BR
variable {E : Envt} {d : Nat} {Q : Pst} {h : mS} {I I' V V' : mI} {L : mL}
theorem cls_pai (q : CQ h I V) {m : Nat} (h3 : V 109 m = 3) : CQ h (uI I 30 m 0) (uI V 112 m 0) := by
  have o : ∀ {a}, a ≠ 112 → uI V 112 m 0 a = V a := fun h1 => uI_ne h1
  have eM : cM (uI V 112 m 0) = cM V := by unfold cM; rw [o (by decide)]
  have eP : cP (uI V 112 m 0) = cP V := by unfold cP; rw [o (by decide)]
  have w := q.w.M
  refine q.M' (fun a h1 h2 => uI_ne (by omega)) (fun a ha => o (by omega)) (q.b.O.cv (fun a ha => o (by omega)) (fun a ha => uI_ne (by omega))) ⟨?_, ?_, ?_, ?_, ?_, ?_, ?_, ?_, ?_, ?_⟩ (q.b.X.cv (fun a ha => o (by omega)) (fun a ha => uI_ne (by omega))) ⟨?_, ?_, ?_, ?_, ?_, ?_, ?_, fun k hk => ?_, fun k hk => ?_, ?_⟩ (q.w.W.cv (fun a ha => o (by omega)))
  · rw [o (by decide)]; simp (disch := decide) only [uI_ne]; exact bM_n q.b
  · rw [o (by decide)]; simp (disch := decide) only [uI_ne]; exact bM_bri q.b
  · rw [o (by decide)]; simp (disch := decide) only [uI_ne]; exact bM_gro q.b
  · rw [o (by decide)]; simp (disch := decide) only [uI_ne]; exact bM_sta q.b
  · rw [o (by decide)]; simp (disch := decide) only [uI_ne]; exact bM_gif q.b
  · rw [o (by decide)]; simp (disch := decide) only [uI_ne]; exact bM_bac q.b
  · simp (disch := decide) only [uI_at]; exact upE (bM_pai q.b)
  · rw [o (by decide)]; simp (disch := decide) only [uI_ne]; exact bM_ask q.b
  · rw [o (by decide)]; simp (disch := decide) only [uI_ne]; exact bM_sin q.b
  · rw [eM, o (by decide), o (by decide)]; simp (disch := decide) only [uI_ne]; exact q.b.M.fac
  · rw [eM, o (by decide)]; exact w.n
  · rw [eM]; exact w.n30
  · rw [eM, eP, o (by decide), o (by decide)]; exact w.bri
  · rw [eM, eP, o (by decide), o (by decide)]; exact w.gro
  · rw [eM, o (by decide)]; exact w.sta
  · rw [eM, o (by decide)]; exact w.gif
  · rw [eM, o (by decide)]; exact w.bac
  · rw [eM] at hk; rw [o (by decide), uI_at]; unfold upd
    by_cases e : k = m
    · rw [e, h3]; intro z; exact absurd z (by decide)
    · rw [if_neg e]; exact w.pa0 k hk
  · rw [eM] at hk; rw [o (show (109 : Nat) ≠ 112 by decide), o (show (110 : Nat) ≠ 112 by decide), uI_at]; unfold upd
    by_cases e : k = m
    · rw [e, h3]; intro z; exact absurd z (by decide)
    · rw [if_neg e]; exact w.pa1 k hk
  · unfold opB
    rw [eM, o (by decide), o (by decide), o (by decide)]; exact w.one
theorem c_breaks (q : CQ h I V) {m x : Int32} (hQ : ∀ I', UC I I' → CQ h I' (brkN V m x).2 → Q (some (.int (brkN V m x).1)) h I' L) : (CT E mX11_breaks (d + 3) 0 0 [.ref (eB E + 0), .int m, .int x] h I L Q) := by
  have n20 := q.w.P.n20
  have n30 := q.w.M.n30
  unfold brkN at hQ
  have no : (¬ (inN m (cM V) ∧ opB V m.toNatClampNeg = true)) → Q (some (.int 0)) h I L := fun hn => by
    rw [cip_f hn] at hQ
    exact hQ I UC.rf q
  have hop : (((¬ m < 0 ∧ ¬ I 24 0 ≤ m) ∧ I 27 m.toNatClampNeg = 0) ∨ ((¬ m < 0 ∧ ¬ I 24 0 ≤ m) ∧ I 27 m.toNatClampNeg = 1)) ↔ (inN m (cM V) ∧ opB V m.toNatClampNeg = true) := by
    rw [cM_r q, ← and_or_left, opB_iff]
    refine and_congr_right fun e => ?_
    obtain ⟨j, hj, rfl⟩ := e
    rw [nI_clamp (by omega), bM_sta q.b j (by omega)]
  refine w_X11_breaks q.s _ _ ⟨fun c => vpM q.w ((cM_r q).mp c) (by decide) (by decide), br_c (fun c => ?_) (fun c => no fun e => c (hop.mpr e))⟩
  obtain ⟨i1, ho⟩ := hop.mp c
  rw [cip_t ⟨i1, ho⟩] at hQ
  obtain ⟨m, hm, rfl⟩ := i1
  have hin : vp_in (nI m) 30 := vp_in_nI (by omega) (by decide)
  rw [nI_clamp (by omega)] at hQ ho ⊢
  have plain : (x = 0 ∨ ¬ V 109 m = 1) → CT E mX11_closeMatch (d + 2) 0 0 [.ref (eB E + 0), .int (nI m), .int 3] h I L (qv h L fun I6 => Q (some (.int 1)) h I6 L) := fun hx => by
    rw [cip_t hx] at hQ
    exact c_close q hm ho (Or.inl rfl) (fun I1 f1 q1 => qv_i (hQ I1 (fun a ha => f1 a (by omega) (by omega) (by omega)) q1))
  rw [bM_sta q.b m (by omega)]
  refine br_c (fun cx => plain (Or.inl cx)) (fun cx => ⟨hin, br_c (fun c1 => ?_) (fun c1 => plain (Or.inr c1))⟩)
  rw [cip_f (fun e => e.elim cx (fun z => z c1))] at hQ
  obtain ⟨b1, b2, -⟩ := mb_ok q.w hm
  obtain ⟨g1, g2, -⟩ := mg_ok q.w hm
  obtain ⟨hb8, ehb⟩ := hN_ok q.w (p := mbN V m) (by omega)
  obtain ⟨hg8, ehg⟩ := hN_ok q.w (p := mgN V m) (by omega)
  rintro y10 rfl y11 rfl
  rw [bM_pai q.b m (by omega), bM_bac q.b m (by omega), bM_gro q.b m (by omega), bM_bri q.b m (by omega), b2, g2, nI_clamp (show mbN V m < 2 ^ 31 by omega), nI_clamp (show mgN V m < 2 ^ 31 by omega), bP_hou q.b _ (show mgN V m < 20 by omega), bP_hou q.b _ (show mbN V m < 20 by omega), ehb, ehg]
  refine ⟨hin, vp_in_nI (by omega) (by decide), vp_in_nI (by omega) (by decide), ?_⟩
  refine c_pay (z := brkY V m) q hb8 hg8 (fun c3 I1 f1 q1 => qi_i ?_) (fun c3 => qi_i (br_t rfl ?_))
  · rw [cip_t c3] at hQ
    refine br_f (by decide) ?_
    have o : ∀ {a}, a ≠ 93 → payV V (hN V (mbN V m)) (hN V (mgN V m)) (brkY V m) a = V a := fun ha => pay_o ha
    have eM : cM (payV V (hN V (mbN V m)) (hN V (mgN V m)) (brkY V m)) = cM V := by unfold cM; rw [o (by decide)]
    have eP : cP (payV V (hN V (mbN V m)) (hN V (mgN V m)) (brkY V m)) = cP V := by unfold cP; rw [o (by decide)]
    have p := cls_cq q1 (m := m) (b := mbN V m) (g := mgN V m) (s := 3) (by rw [eM]; exact hm) (by unfold opB at ho ⊢; rw [o (by decide)]; exact ho) (Or.inl rfl) (by rw [eP]; exact b1) (by rw [o (by decide)]; exact b2) (by rw [eP]; exact g1) (by rw [o (by decide)]; exact g2)
    have p2 := cls_pai p (m := m) (by rw [cls_109, upd_same'])
    rw [← cls_uI (by decide) (by decide) (by decide)] at p2
    refine c_closeR q.s (by omega) (show mbN V m < 20 by omega) (show mgN V m < 20 by omega) ?_ ?_ (qv_i ?_)
    · rw [uI_ne (by decide), bM_bri q1.b m (by omega), o (by decide)]; exact b2
    · rw [uI_ne (by decide), bM_gro q1.b m (by omega), o (by decide)]; exact g2
    · rw [uI_ne (show (1 : Nat) ≠ 30 by decide), bS_y q1.b, uI_comm (show (30 : Nat) ≠ 13 by decide), uI_comm (show (30 : Nat) ≠ 13 by decide), uI_comm (show (30 : Nat) ≠ 27 by decide), uI_comm (show (30 : Nat) ≠ 32 by decide)]
      exact hQ _ (fun a ha => by rw [uI_ne (by omega), uI_ne (by omega), uI_ne (by omega), uI_ne (by omega), uI_ne (by omega)]; exact f1 a (by omega)) p2
  · rw [cip_f c3] at hQ
    exact hQ I UC.rf q
theorem m_breaks (hs : SL h) (w : Wf V) (hV : MV I V) {m x : Int32} (hQ : ∀ I', UM I I' → MV I' (brkN V m x).2 → Q (some (.int (brkN V m x).1)) h I' L) : (CT E mX12_breaks (d + 2) 0 0 [.ref (eB E + 83), .int m, .int x] h I L Q) := by
  have n20 := w.P.n20
  have n30 := w.M.n30
  unfold brkN at hQ
  have no : (¬ (inN m (cM V) ∧ opB V m.toNatClampNeg = true)) → Q (some (.int 0)) h (uI I 83 0 0) L := fun hn => by
    rw [cip_f hn] at hQ
    exact hQ _ UM.u hV.o
  refine w_X12_breaks hs _ _ (br_c (fun c1 => ?_) (fun c1 => no fun e => c1 ((mM_r w hV).mpr e.1)))
  have i1 := (mM_r w hV).mp c1
  have j1 := i1
  obtain ⟨m, hm, rfl⟩ := i1
  have hin : vp_in (nI m) 120 := vp_in_nI (by omega) (by decide)
  have hV1 : MV (uI I 83 0 0) V := hV.o
  rw [nI_clamp (by omega)] at hQ no ⊢
  rw [hV1 109 (by decide) (by decide), hV 109 (by decide) (by decide), hV 107 (by decide) (by decide), hV 108 (by decide) (by decide), hV 96 (by decide) (by decide), hV 93 (by decide) (by decide), hV 111 (by decide) (by decide), hV 112 (by decide) (by decide)]
  refine ⟨hin, br_c (fun c2 => ?_) (fun c2 => no fun e => c2 (opB_iff.mp e.2))⟩
  have ho := opB_iff.mpr c2
  rw [cip_t ⟨j1, ho⟩] at hQ
  have plain : (x = 0 ∨ ¬ V 109 m = 1) → CT E mX12_comes (d + 1) 0 0 [.ref (eB E + 83), .int (nI m), .int 3] h (uI I 83 0 0) L (qv h L fun I9 => Q (some (.int 1)) h I9 L) := fun hx => by
    rw [cip_t hx] at hQ
    exact m_comes hs w hV1 hm (fun I' u' v' => qv_i (hQ I' (UM.tr UM.u u') v'))
  refine br_c (fun cx => plain (Or.inl cx)) (fun cx => ⟨hin, br_c (fun c1 => ?_) (fun c1 => plain (Or.inr c1))⟩)
  rw [cip_f (fun e => e.elim cx (fun z => z c1))] at hQ
  obtain ⟨b1, b2, -⟩ := mb_ok w hm
  obtain ⟨g1, g2, -⟩ := mg_ok w hm
  obtain ⟨hb8, ehb⟩ := hN_ok w (p := mbN V m) (by omega)
  obtain ⟨hg8, ehg⟩ := hN_ok w (p := mgN V m) (by omega)
  obtain ⟨gg, g3, g4⟩ := w.M.gif m hm
  obtain ⟨kk, k3, k4⟩ := w.M.bac m hm
  have e112 : V 112 m = nI (gg / 2) := by rw [w.M.pa1 m hm c1, g4, N2, nI_div (by omega) (by decide) (by decide)]
  have ey : V 112 m + ((V 112 m).toInt64 * (V 111 m).toInt64 / 100).toInt32 = brkY V m := by
    unfold brkY
    rw [e112, k4, wide_div (by omega) (by omega)]
  rw [b2, g2, nI_clamp (show mbN V m < 2 ^ 31 by omega), nI_clamp (show mgN V m < 2 ^ 31 by omega), ehg]
  refine ⟨vp_in_nI (by omega) (by decide), ?_⟩
  rintro y14 rfl y15 rfl
  rw [ey, ehb, nI_clamp (show hN V (mbN V m) < 2 ^ 31 by omega), nI_clamp (show hN V (mgN V m) < 2 ^ 31 by omega)]
  refine ⟨vp_in_nI (by omega) (by decide), br_c (fun c3 => ⟨vp_in_nI (by omega) (by decide), vp_in_nI (by omega) (by decide), ?_⟩) (fun c3 => ?_)⟩
  · rw [cip_t c3] at hQ
    dsimp only at hQ
    unfold brkP at hQ
    refine w_X12_comes hs _ _ ⟨hin, qv_i ?_⟩
    rw [nI_clamp (by omega)]
    have v1 : MV (uI (uI (uI (uI I 83 0 0) 93 (hN V (mbN V m)) (V 93 (hN V (mbN V m)) - brkY V m)) 93 (hN V (mgN V m)) (uI (uI I 83 0 0) 93 (hN V (mbN V m)) (V 93 (hN V (mbN V m)) - brkY V m) 93 (hN V (mgN V m)) + brkY V m)) 112 m 0) (uI (payV V (hN V (mbN V m)) (hN V (mgN V m)) (brkY V m)) 112 m 0) := by
      unfold payV
      rw [uI_at, uI_at, hV1 93 (by decide) (by decide)]
      exact hV1.u.u.u
    have e88 := v1 88 (by decide) (by decide)
    rw [e88]
    exact hQ _ (UM.tr (UM.tr (UM.tr (UM.tr (UM.tr UM.u UM.u) UM.u) UM.u) UM.u) UM.u) v1.u.u
  · rw [cip_f c3] at hQ
    exact hQ _ UM.u hV1
end BR
