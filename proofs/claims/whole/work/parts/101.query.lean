/-! queries: heard, kin, chain, tell, about, fault, read, may, liking, match -/
section QU
variable {E : Envt} {d : Nat} {Q : Pst} {h : mS} {I V : mI} {L : mL}
theorem cP_r (q : CQ h I V) {x : Int32} : (¬ x < 0 ∧ ¬ I 7 0 ≤ x) ↔ inN x (cP V) := by have := q.w.P.n20; rw [bP_n q.b, q.w.P.n]; exact in_rng x (by omega)
theorem cH_r (q : CQ h I V) {x : Int32} : (¬ x < 0 ∧ ¬ I 2 0 ≤ x) ↔ inN x (cH V) := by have := q.w.H.n8; rw [bH_n q.b, q.w.H.n]; exact in_rng x (by omega)
theorem cN_r (q : CQ h I V) {x : Int32} : (¬ x < 0 ∧ ¬ I 17 0 ≤ x) ↔ inN x (cN V) := by have := q.w.N.n60; rw [bN_n q.b, q.w.N.n]; exact in_rng x (by omega)
theorem cM_r (q : CQ h I V) {x : Int32} : (¬ x < 0 ∧ ¬ I 24 0 ≤ x) ↔ inN x (cM V) := by have := q.w.M.n30; rw [bM_n q.b, q.w.M.n]; exact in_rng x (by omega)
theorem mP_r (w : Wf V) (hV : MV I V) {x : Int32} : (¬ x < 0 ∧ ¬ uI I 83 0 0 95 0 - 1 < x) ↔ inN x (cP V) := by have := w.P.n20; rw [uI_ne (by decide), hV 95 (by decide) (by decide), w.P.n]; exact rngM (by omega)
theorem mH_r (w : Wf V) (hV : MV I V) {x : Int32} : (¬ x < 0 ∧ ¬ uI I 83 0 0 90 0 - 1 < x) ↔ inN x (cH V) := by have := w.H.n8; rw [uI_ne (by decide), hV 90 (by decide) (by decide), w.H.n]; exact rngM (by omega)
theorem mN_r (w : Wf V) (hV : MV I V) {x : Int32} : (¬ x < 0 ∧ ¬ I 104 0 - 1 < x) ↔ inN x (cN V) := by have := w.N.n60; rw [hV 104 (by decide) (by decide), w.N.n]; exact rngM (by omega)
theorem mM_r (w : Wf V) (hV : MV I V) {x : Int32} : (¬ x < 0 ∧ ¬ uI I 83 0 0 106 0 - 1 < x) ↔ inN x (cM V) := by have := w.M.n30; rw [uI_ne (by decide), hV 106 (by decide) (by decide), w.M.n]; exact rngM (by omega)
theorem r_5 {x : Int32} : (¬ x < 0 ∧ ¬ 4 < x) ↔ inN x 5 := rng_le (m := 4) rfl (by decide)
theorem r_301 {x : Int32} : (¬ x < 0 ∧ ¬ 300 < x) ↔ inN x 301 := rng_le (m := 300) rfl (by decide)
theorem r_4 {x : Int32} : (¬ x < 0 ∧ ¬ 3 < x) ↔ inN x 4 := rng_le (m := 3) rfl (by decide)
theorem FrM.u0 {I : mI} : FrM I (uI I 83 0 0) := FrM.u
noncomputable def hrdA (V : mI) (k v : Int32) : Int32 := cif (inN k (cN V) ∧ inN v 5) (hdY V k.toNatClampNeg v.toNatClampNeg) (-1)
theorem c_heard (q : CQ h I V) {k v : Int32} (hQ : Q (some (.int (hrdA V k v))) h I L) : (CT E mX11_heard (d + 2) 0 0 [.ref (eB E + 0), .int k, .int v] h I L Q) := by
  have n60 := q.w.N.n60
  unfold hrdA at hQ
  refine w_X11_heard q.s _ _ (br_c (fun c1 => br_c (fun c2 => ?_) (fun c2 => ?_)) (fun c1 => ?_))
  · obtain ⟨kk, hk, rfl⟩ := (cN_r q).mp c1
    obtain ⟨vv, hv, rfl⟩ := r_5.mp c2
    rw [cif_t ⟨⟨kk, hk, rfl⟩, ⟨vv, hv, rfl⟩⟩, nI_clamp (by omega), nI_clamp (by omega)] at hQ
    exact c_yearIn q hk hv (qi_i hQ)
  · rw [cif_f (fun e => c2 (r_5.mpr e.2))] at hQ; exact hQ
  · rw [cif_f (fun e => c1 ((cN_r q).mpr e.1))] at hQ; exact hQ
theorem m_heard (hs : SL h) (w : Wf V) (hV : MV I V) {k v : Int32} (hQ : ∀ I', FrM I I' → Q (some (.int (hrdA V k v))) h I' L) : (CT E mX12_heard (d + 2) 0 0 [.ref (eB E + 83), .int k, .int v] h I L Q) := by
  have n60 := w.N.n60
  unfold hrdA at hQ
  refine w_X12_heard hs _ _ (br_c (fun c1 => br_c (fun c2 => ?_) (fun c2 => ?_)) (fun c1 => ?_))
  · obtain ⟨kk, hk, rfl⟩ := (mN_r w hV).mp c1
    obtain ⟨vv, hv, rfl⟩ := r_5.mp c2
    have hat := (w.N.at kk hk).nat (by decide)
    obtain ⟨g1, g2⟩ := hd_of (w := w) hk hv
    refine m_findTakes hs hv (fun t ht => qv_i ?_)
    have et : tkS (uI I 83 0 0) vv = tkS V vv := by unfold tkS; rw [uI_ne (by decide), hV 89 (by decide) (by decide)]
    rw [et] at ht
    have fin := hQ _ (FrM.tr (FrM.u0 (I := I)) (FrM.s (a := 123) (f := t)))
    rw [cif_t ⟨⟨kk, hk, rfl⟩, ⟨vv, hv, rfl⟩⟩, nI_clamp (by omega), nI_clamp (by omega)] at fin
    have q2 : 4 * nI kk + 2 = nI (4 * kk + 2) := by rw [N4, N2, pk_mul, nI_add]
    have q3 : 4 * nI kk + 3 = nI (4 * kk + 3) := by rw [N4, N3, pk_mul, nI_add]
    rw [q2, q3, nI_clamp (show 4 * kk + 2 < 2 ^ 31 by omega), nI_clamp (show 4 * kk + 3 < 2 ^ 31 by omega), sA_at, sA_ne (show (105 : Nat) ≠ 123 by decide), uI_ne (show (105 : Nat) ≠ 83 by decide), hV 105 (by decide) (by decide)]
    refine ⟨vp_in_nI (by omega) (by decide), by rw [hat.2]; exact vp_in_nI hat.1 (by decide), ?_⟩
    rintro y10 rfl
    have hat' : (V 105 (4 * kk + 2)).toNatClampNeg = atN V kk := rfl
    have hat1 : atN V kk < 5 := hat.1
    rw [hat', ht (atN V kk) hat1]
    refine ⟨fun _ => vp_in_nI (by omega) (by decide), ?_⟩
    rw [g1] at fin
    by_cases c : 1000 ≤ tkS V vv (atN V kk)
    · rw [if_pos c] at fin
      rw [if_neg (fun e => by rw [fa_lt] at e; rw [fa_le] at c; omega)]
      exact fin
    · rw [if_neg c] at fin
      rw [if_pos (fa_of_nle c)]
      exact fin
  · have fin := hQ _ (FrM.u0 (I := I))
    rw [cif_f (fun e => c2 (r_5.mpr e.2))] at fin; exact fin
  · have fin := hQ _ (FrM.u0 (I := I))
    rw [cif_f (fun e => c1 ((mN_r w hV).mpr e.1))] at fin; exact fin
theorem y301 {y : Int32} (h : inN y 301) : ¬ y = (-1) := by
  obtain ⟨j, hj, rfl⟩ := h
  exact m1_nI (by omega)
noncomputable def kinQ (V : mI) (a b v y : Int32) : Int32 := cif (inN a (cP V) ∧ inN b (cP V) ∧ inN v 5 ∧ inN y 301) (kiA V v.toNatClampNeg y a.toNatClampNeg b.toNatClampNeg) (-1)
noncomputable def chnQ (V : mI) (a b v y k : Int32) : Int32 := cif (inN a (cP V) ∧ inN b (cP V) ∧ inN v 5 ∧ inN y 301) (chA V v.toNatClampNeg y a.toNatClampNeg b.toNatClampNeg k) (-1)
theorem c_kin (q : CQ h I V) {a b v y : Int32} (hQ : ∀ I', FrC I I' → Kc I' V → Q (some (.int (kinQ V a b v y))) h I' L) : (CT E mX11_kin (d + 4) 0 0 [.ref (eB E + 0), .int a, .int b, .int v, .int y] h I L Q) := by
  have n20 := q.w.P.n20
  unfold kinQ at hQ
  refine w_X11_kin q.s _ _ _ _ (br_c (fun c => ?_) (fun c => ?_))
  · obtain ⟨c1, c2, c3, c4⟩ := c
    obtain ⟨aa, ha, rfl⟩ := (cP_r q).mp c1
    obtain ⟨bb, hb, rfl⟩ := (cP_r q).mp c2
    obtain ⟨vv, hv, rfl⟩ := r_5.mp c3
    have hy := r_301.mp c4
    rw [cif_t ⟨⟨aa, ha, rfl⟩, ⟨bb, hb, rfl⟩, ⟨vv, hv, rfl⟩, hy⟩, nI_clamp (by omega), nI_clamp (by omega), nI_clamp (by omega)] at hQ
    exact c_steps q ha hb hv (y301 hy) (fun I' k1 k2 => qi_i (hQ I' k1.fr k2))
  · have fin := hQ I FrC.rf q.k
    rw [cif_f (fun e => c ⟨(cP_r q).mpr e.1, (cP_r q).mpr e.2.1, r_5.mpr e.2.2.1, r_301.mpr e.2.2.2⟩)] at fin
    exact fin
theorem c_chain (q : CQ h I V) {a b v y k : Int32} (hQ : ∀ I', FrC I I' → Kc I' V → Q (some (.int (chnQ V a b v y k))) h I' L) : (CT E mX11_chain (d + 4) 0 0 [.ref (eB E + 0), .int a, .int b, .int v, .int y, .int k] h I L Q) := by
  have n20 := q.w.P.n20
  unfold chnQ at hQ
  refine w_X11_chain q.s _ _ _ _ _ (br_c (fun c => ?_) (fun c => ?_))
  · obtain ⟨c1, c2, c3, c4⟩ := c
    obtain ⟨aa, ha, rfl⟩ := (cP_r q).mp c1
    obtain ⟨bb, hb, rfl⟩ := (cP_r q).mp c2
    obtain ⟨vv, hv, rfl⟩ := r_5.mp c3
    have hy := r_301.mp c4
    rw [cif_t ⟨⟨aa, ha, rfl⟩, ⟨bb, hb, rfl⟩, ⟨vv, hv, rfl⟩, hy⟩, nI_clamp (by omega), nI_clamp (by omega), nI_clamp (by omega)] at hQ
    exact c_link q ha hb hv (y301 hy) (fun I' k1 k2 => qi_i (hQ I' k1.fr k2))
  · have fin := hQ I FrC.rf q.k
    rw [cif_f (fun e => c ⟨(cP_r q).mpr e.1, (cP_r q).mpr e.2.1, r_5.mpr e.2.2.1, r_301.mpr e.2.2.2⟩)] at fin
    exact fin
theorem m_kin (hs : SL h) (w : Wf V) (hV : MV I V) {a b v y : Int32} (hQ : ∀ I', FrM I I' → Q (some (.int (kinQ V a b v y))) h I' L) : (CT E mX12_kin (d + 3) 0 0 [.ref (eB E + 83), .int a, .int b, .int v, .int y] h I L Q) := by
  have n20 := w.P.n20
  unfold kinQ at hQ
  have hV1 : MV (uI I 83 0 0) V := hV.fr FrM.u0
  have no : (¬ (inN a (cP V) ∧ inN b (cP V) ∧ inN v 5 ∧ inN y 301)) → Q (some (.int (-1))) h (uI I 83 0 0) L := fun hn => by
    have fin := hQ _ (FrM.u0 (I := I))
    rw [cif_f hn] at fin
    exact fin
  refine w_X12_kin hs _ _ _ _ (br_c (fun c1 => br_c (fun c2 => br_c (fun c3 => br_c (fun c4 => ?_) (fun c4 => no fun e => c4 (r_301.mpr e.2.2.2))) (fun c3 => no fun e => c3 (r_5.mpr e.2.2.1))) (fun c2 => no fun e => c2 ((mP_r w hV).mpr e.2.1))) (fun c1 => no fun e => c1 ((mP_r w hV).mpr e.1)))
  obtain ⟨aa, ha, rfl⟩ := (mP_r w hV).mp c1
  obtain ⟨bb, hb, rfl⟩ := (mP_r w hV).mp c2
  obtain ⟨vv, hv, rfl⟩ := r_5.mp c3
  have hy := r_301.mp c4
  rw [cif_t ⟨⟨aa, ha, rfl⟩, ⟨bb, hb, rfl⟩, ⟨vv, hv, rfl⟩, hy⟩, nI_clamp (by omega), nI_clamp (by omega), nI_clamp (by omega)] at hQ
  exact m_kinOf hs w hV1 ha hb hv (fun I' k1 _ _ _ _ => qi_i (hQ I' (FrM.tr FrM.u0 k1.fr)))
theorem m_chain (hs : SL h) (w : Wf V) (hV : MV I V) {a b v y k : Int32} (hQ : ∀ I', FrM I I' → Q (some (.int (chnQ V a b v y k))) h I' L) : (CT E mX12_chain (d + 3) 0 0 [.ref (eB E + 83), .int a, .int b, .int v, .int y, .int k] h I L Q) := by
  have n20 := w.P.n20
  unfold chnQ at hQ
  have hV1 : MV (uI I 83 0 0) V := hV.fr FrM.u0
  have no : (¬ (inN a (cP V) ∧ inN b (cP V) ∧ inN v 5 ∧ inN y 301)) → Q (some (.int (-1))) h (uI I 83 0 0) L := fun hn => by
    have fin := hQ _ (FrM.u0 (I := I))
    rw [cif_f hn] at fin
    exact fin
  refine w_X12_chain hs _ _ _ _ _ (br_c (fun c1 => br_c (fun c2 => br_c (fun c3 => br_c (fun c4 => ?_) (fun c4 => no fun e => c4 (r_301.mpr e.2.2.2))) (fun c3 => no fun e => c3 (r_5.mpr e.2.2.1))) (fun c2 => no fun e => c2 ((mP_r w hV).mpr e.2.1))) (fun c1 => no fun e => c1 ((mP_r w hV).mpr e.1)))
  obtain ⟨aa, ha, rfl⟩ := (mP_r w hV).mp c1
  obtain ⟨bb, hb, rfl⟩ := (mP_r w hV).mp c2
  obtain ⟨vv, hv, rfl⟩ := r_5.mp c3
  have hy := r_301.mp c4
  rw [cif_t ⟨⟨aa, ha, rfl⟩, ⟨bb, hb, rfl⟩, ⟨vv, hv, rfl⟩, hy⟩, nI_clamp (by omega), nI_clamp (by omega), nI_clamp (by omega)] at hQ
  refine m_kinOf hs w hV1 ha hb hv (fun I1 k1 k2 k3 k4 k5 => qi_i ?_)
  rw [k5]
  have hf1 : FrM I I1 := FrM.tr FrM.u0 k1.fr
  cases hf : foA V vv y aa bb with
  | none =>
    have fin := hQ I1 hf1
    unfold chA at fin
    rw [hf] at fin
    exact br_t rfl fin
  | some f =>
    have hfl := foF_lt hf
    have u1 : UA V vv y aa f < 20 := by have := dR_99 (pr (paA V vv y)) aa f; unfold UA at hfl ⊢; omega
    have w1 : UA V vv y bb f < 20 := by have := dR_99 (pr (paA V vv y)) bb f; unfold UA at hfl ⊢; omega
    have ev : (oI (some f)) = nI f := rfl
    have eki : kiA V vv y aa bb = nI (UA V vv y aa f + UA V vv y bb f) := by unfold kiA; rw [hf]
    rw [ev, eki, nI_clamp (by omega)]
    have hkr : (¬ k < 0 ∧ ¬ nI (UA V vv y aa f + UA V vv y bb f) < k) ↔ inN k (UA V vv y aa f + UA V vv y bb f + 1) := rng_le rfl (by omega)
    refine br_f (m1_nI (by omega)) (br_c (fun c5 => ⟨vp_in_nI (by omega) (by decide), ?_⟩) (fun c5 => ?_))
    · obtain ⟨kk, hkk, rfl⟩ := hkr.mp c5
      rw [k3 f (by omega)]
      rintro y20 rfl
      have ek : chA V vv y aa bb (nI kk) = nI (if kk ≤ UA V vv y aa f then riP (paA V vv y) f (UA V vv y aa f) aa kk else skP (paA V vv y) f (UA V vv y bb f) bb (kk - UA V vv y aa f)) := by
        unfold chA
        rw [hf]
        dsimp only
        rw [cif_t ⟨kk, hkk, rfl⟩, nI_clamp (by omega)]
      rw [ek] at hQ
      have pok : paOK V (I1 124) := fun i hi => by rw [k2 i hi]; exact paA_ok w vv y i hi
      have e1 : ∀ p q, p < 20 → dR (pr (I1 124)) p q = dR (pr (paA V vv y)) p q := fun p q hp => dR_cg k2 hp
      have eri : ∀ s, s ≤ UA V vv y aa f → riP (I1 124) f (UA V vv y aa f) aa s = riP (paA V vv y) f (UA V vv y aa f) aa s := by
        intro s
        induction s with
        | zero => intro _; rfl
        | succ s ih =>
          intro hs
          obtain ⟨g1, -⟩ := riP_ok (P := paA V vv y) (f := f) (u := UA V vv y aa f) (a := aa) rfl u1 (by omega) s (by omega)
          have g1 : riP (paA V vv y) f (UA V vv y aa f) aa s < 20 := g1
          rw [riP, riP, ih (by omega)]
          have : (fun q => pr (I1 124) (riP (paA V vv y) f (UA V vv y aa f) aa s) q ∧ dR (pr (I1 124)) q f = UA V vv y aa f - (s + 1)) = fun q => (pr (I1 124) (riP (paA V vv y) f (UA V vv y aa f) aa s) q ∧ dR (pr (I1 124)) q f = UA V vv y aa f - (s + 1)) := rfl
          obtain ⟨q1, q2, q3⟩ := lsN_ok (riP_ex (P := paA V vv y) (f := f) (u := UA V vv y aa f) (a := aa) rfl u1 (by omega) (s := s) (by omega))
          have key : ∀ x, x < 20 → ((pr (I1 124) (riP (paA V vv y) f (UA V vv y aa f) aa s) x ∧ dR (pr (I1 124)) x f = UA V vv y aa f - (s + 1)) ↔ (pr (paA V vv y) (riP (paA V vv y) f (UA V vv y aa f) aa s) x ∧ dR (pr (paA V vv y)) x f = UA V vv y aa f - (s + 1))) := fun x hx => by
            unfold pr at *
            rw [k2 _ (by omega), k2 _ (by omega)]
            have := e1 x f hx
            unfold pr at this
            rw [this]
          exact lsN_eq q1 ((key _ q1).mpr q2) (fun j hj hh => q3 j hj ((key j (by omega)).mp hh))
      have esk : ∀ s, s ≤ UA V vv y bb f → skP (I1 124) f (UA V vv y bb f) bb s = skP (paA V vv y) f (UA V vv y bb f) bb s := by
        intro s
        induction s with
        | zero => intro _; rfl
        | succ s ih =>
          intro hs
          obtain ⟨g1, -⟩ := skP_ok (P := paA V vv y) (f := f) (w := UA V vv y bb f) (b := bb) rfl w1 (by omega) (by omega) s (by omega)
          have g1 : skP (paA V vv y) f (UA V vv y bb f) bb s < 20 := g1
          rw [skP, skP, ih (by omega)]
          obtain ⟨q1, q2, q3⟩ := lsN_ok (skP_ex (P := paA V vv y) (f := f) (w := UA V vv y bb f) (b := bb) rfl w1 (by omega) (by omega) (s := s) (by omega))
          have key : ∀ x, x < 20 → ((pr (I1 124) x (skP (paA V vv y) f (UA V vv y bb f) bb s) ∧ dR (pr (I1 124)) bb x = UA V vv y bb f - (s + 1)) ↔ (pr (paA V vv y) x (skP (paA V vv y) f (UA V vv y bb f) bb s) ∧ dR (pr (paA V vv y)) bb x = UA V vv y bb f - (s + 1))) := fun x hx => by
            have := e1 bb x (by omega)
            rw [this]
            unfold pr
            rw [k2 _ (by omega), k2 _ (by omega)]
          exact lsN_eq q1 ((key _ q1).mpr q2) (fun j hj hh => q3 j hj ((key j (by omega)).mp hh))
      refine m_chain91 (P := I1 124) hs w pok ha hb hfl.1 (e1 aa f (by omega)) u1 (e1 bb f (by omega)) w1 (show kk ≤ UA V vv y aa f + UA V vv y bb f by omega) (hV1.fr k1.fr) rfl (fun I2 f2 => ?_)
      have fin := hQ I2 (FrM.tr hf1 (fun a ha => f2 a (by omega)))
      by_cases ck : kk ≤ UA V vv y aa f
      · rw [if_pos ck] at fin ⊢
        rw [eri kk ck]
        exact fin
      · rw [if_neg ck] at fin ⊢
        rw [esk _ (by omega)]
        exact fin
    · have fin := hQ I1 hf1
      unfold chA at fin
      rw [hf] at fin
      dsimp only at fin
      rw [cif_f (fun e => c5 (hkr.mpr e))] at fin
      exact fin

noncomputable def tlF (V : mI) (p : Nat) (x : Int32) : Int32 := if x = 0 then V 96 p else if x = 1 then V 97 p else if x = 2 then V 98 p else if x = 3 then V 99 p else if x = 4 then V 88 0 - V 99 p else if x = 5 then bI (V 100 p = 0) else if x = 6 then V 101 p else if x = 7 then V 102 p else if x = 8 then opA V p else if x = 9 then cif (frA V p) 1 0 else (-100)
noncomputable def tellQ (V : mI) (p x : Int32) : Int32 := cif (inN p (cP V)) (tlF V p.toNatClampNeg x) (-100)
theorem c_tell (q : CQ h I V) {p x : Int32} (hQ : Q (some (.int (tellQ V p x))) h I L) : (CT E mX11_tell (d + 1) 0 0 [.ref (eB E + 0), .int p, .int x] h I L Q) := by
  have n20 := q.w.P.n20
  unfold tellQ at hQ
  refine w_X11_tell q.s _ _ (br_c (fun c => ?_) (fun c => ?_))
  · obtain ⟨pp, hp, rfl⟩ := (cP_r q).mp c
    have hin : vp_in (nI pp) 20 := vp_in_nI (by omega) (by decide)
    have hfr := c_free q.b q.w hp
    rw [cif_t ⟨pp, hp, rfl⟩, nI_clamp (by omega)] at hQ
    rw [nI_clamp (by omega), bP_hou q.b pp (by omega), bP_kin q.b pp (by omega), bP_sta q.b pp (by omega), bP_bor q.b pp (by omega), bP_spo q.b pp (by omega), bP_wid q.b pp (by omega), bO_op q.b pp hp, bS_y q.b]
    refine ⟨fun e => ?_, fun e => ?_, fun e => ?_, fun e => ?_, fun e => ?_, fun e => ?_, fun e => ?_, fun e => ?_, fun e => ?_, fun e => ?_, fun n0 n1 n2 n3 n4 n5 n6 n7 n8 n9 => ?_⟩
    · subst e; exact ⟨hin, hQ⟩
    · subst e; exact ⟨hin, hQ⟩
    · subst e; exact ⟨hin, hQ⟩
    · subst e; exact ⟨hin, hQ⟩
    · subst e; exact ⟨hin, hQ⟩
    · subst e
      have ee : bI (¬ I 14 pp = 0) = bI (V 100 pp = 0) := bI_cg (by
        rw [bP_ali q.b pp hp]
        by_cases c : V 100 pp = 0
        · rw [if_pos c]; exact ⟨fun _ => c, fun _ => by decide⟩
        · rw [if_neg c]; exact ⟨fun e => absurd rfl e, fun e => absurd e c⟩)
      rw [ee]; exact ⟨hin, hQ⟩
    · subst e; exact ⟨hin, hQ⟩
    · subst e; rw [bI_ofz (q.w.P.wid pp (by omega))]; exact ⟨hin, hQ⟩
    · subst e; exact ⟨hin, hQ⟩
    · subst e
      refine ⟨hin, ?_⟩
      rw [bP_spo q.b pp (by omega), bO_op q.b pp hp] at hfr
      rw [bI_nn]
      have hQ : Q (some (.int (cif (frA V pp) 1 0))) h I L := hQ
      by_cases cf : frA V pp
      · rw [bI_t (hfr.mpr cf)]; rw [cif_t cf] at hQ; exact hQ
      · rw [bI_f (fun e => cf (hfr.mp e))]; rw [cif_f cf] at hQ; exact hQ
    · have et : tlF V pp x = (-100) := by unfold tlF; rw [if_neg n0, if_neg n1, if_neg n2, if_neg n3, if_neg n4, if_neg n5, if_neg n6, if_neg n7, if_neg n8, if_neg n9]
      rw [et] at hQ; exact hQ
  · rw [cif_f (fun e => c ((cP_r q).mpr e))] at hQ; exact hQ
theorem m_tell (hs : SL h) (w : Wf V) (hV : MV I V) {p x : Int32} (hQ : ∀ I', FrM I I' → Q (some (.int (tellQ V p x))) h I' L) : (CT E mX12_tell (d + 3) 0 0 [.ref (eB E + 83), .int p, .int x] h I L Q) := by
  have n20 := w.P.n20
  have hQ := hQ _ (FrM.u0 (I := I))
  have hV1 : MV (uI I 83 0 0) V := hV.fr FrM.u0
  unfold tellQ at hQ
  refine w_X12_tell hs _ _ (br_c (fun c => ?_) (fun c => ?_))
  · obtain ⟨pp, hp, rfl⟩ := (mP_r w hV).mp c
    have hin : vp_in (nI pp) 80 := vp_in_nI (by omega) (by decide)
    rw [cif_t ⟨pp, hp, rfl⟩, nI_clamp (by omega)] at hQ
    rw [nI_clamp (by omega), uI_ne (show (88 : Nat) ≠ 83 by decide), uI_ne (show (99 : Nat) ≠ 83 by decide), hV 96 (by decide) (by decide), hV 97 (by decide) (by decide), hV 98 (by decide) (by decide), hV 99 (by decide) (by decide), hV 88 (by decide) (by decide), hV 100 (by decide) (by decide), hV 101 (by decide) (by decide), hV 102 (by decide) (by decide)]
    refine ⟨fun e => ?_, fun e => ?_, fun e => ?_, fun e => ?_, fun e => ?_, fun e => ?_, fun e => ?_, fun e => ?_, fun e => ?_, fun e => ?_, fun n0 n1 n2 n3 n4 n5 n6 n7 n8 n9 => ?_⟩
    · subst e; exact ⟨hin, hQ⟩
    · subst e; exact ⟨hin, hQ⟩
    · subst e; exact ⟨hin, hQ⟩
    · subst e; exact ⟨hin, hQ⟩
    · subst e; exact ⟨hin, hQ⟩
    · subst e; exact ⟨hin, hQ⟩
    · subst e; exact ⟨hin, hQ⟩
    · subst e; rw [bI_ofz (w.P.wid pp (by omega))]; exact ⟨hin, hQ⟩
    · subst e; exact m_openOf hs w hV1 (qi_i hQ)
    · subst e
      refine m_isFree hs w hV1 (by omega) (qi_i ?_)
      have hQ : Q (some (.int (cif (frA V pp) 1 0))) h (uI I 83 0 0) L := hQ
      by_cases cf : frA V pp
      · rw [cif_t cf] at hQ ⊢; rw [bI_t (by decide)]; exact hQ
      · rw [cif_f cf] at hQ ⊢; rw [bI_f (by simp)]; exact hQ
    · have et : tlF V pp x = (-100) := by unfold tlF; rw [if_neg n0, if_neg n1, if_neg n2, if_neg n3, if_neg n4, if_neg n5, if_neg n6, if_neg n7, if_neg n8, if_neg n9]
      rw [et] at hQ; exact hQ
  · rw [cif_f (fun e => c ((mP_r w hV).mpr e))] at hQ; exact hQ

noncomputable def abF (V : mI) (p : Nat) (x : Int32) : Int32 := if x = 0 then V 91 p else if x = 1 then V 92 p else if x = 2 then V 93 p else if x = 3 then V 94 p else if x = 4 then nI (pct (fun r => V 96 r = nI p ∧ V 100 r = 0) (cP V)) else (-1)
noncomputable def abtQ (V : mI) (p x : Int32) : Int32 := cif (inN p (cH V)) (abF V p.toNatClampNeg x) (-1)
theorem c_livingIn (q : CQ h I V) {p : Nat} (hQ : Q (some (.int (nI (pct (fun r => V 96 r = nI p ∧ V 100 r = 0) (cP V))))) h I L) : (CT E mX7_livingIn d 0 0 [.ref (eB E + 7), .int (nI p)] h I L Q) := by
  have n20 := q.w.P.n20
  refine w_X7_livingIn q.s _ ?_
  have K : ∀ k, k ≤ cP V → (J E mX7_livingIn d Q 0 0 4 [some (.ref (eB E + 7)), some (.int (nI p)), some (.int (nI (pct (fun r => V 96 r = nI p ∧ V 100 r = 0) k))), some (.int (nI k))] [] h I L) := by
    refine dn (cP V) ?_ ?_
    · exact w_X7_livingIn_4 q.s _ _ _ (br_t (by rw [bP_n q.b, q.w.P.n]; exact nI_le (Nat.le_refl _) (by omega)) hQ)
    · intro k hk ih
      refine w_X7_livingIn_4 q.s _ _ _ (br_f (by rw [bP_n q.b, q.w.P.n]; exact nI_ge hk (by omega)) ⟨vp_in_nI (by omega) (by decide), ?_⟩)
      rw [nI_clamp (by omega), bP_hou q.b k (by omega), bP_ali q.b k hk, nI_1 k]
      rintro y5 rfl
      by_cases c1 : V 96 k = nI p
      · rw [if_pos c1]
        by_cases c2 : V 100 k = 0
        · rw [if_pos c2, if_neg (by decide), nI_1]
          rw [pct_y (p := fun r => V 96 r = nI p ∧ V 100 r = 0) ⟨c1, c2⟩] at ih
          exact ih
        · rw [if_neg c2, if_pos rfl]
          rw [pct_n (p := fun r => V 96 r = nI p ∧ V 100 r = 0) (fun e => c2 e.2)] at ih
          exact ih
      · rw [if_neg c1]
        rw [pct_n (p := fun r => V 96 r = nI p ∧ V 100 r = 0) (fun e => c1 e.1)] at ih
        exact ih
  exact K 0 (by omega)
theorem c_about (q : CQ h I V) {p x : Int32} (hQ : Q (some (.int (abtQ V p x))) h I L) : (CT E mX11_about (d + 1) 0 0 [.ref (eB E + 0), .int p, .int x] h I L Q) := by
  have n8 := q.w.H.n8
  unfold abtQ at hQ
  refine w_X11_about q.s _ _ (br_c (fun c => ?_) (fun c => ?_))
  · obtain ⟨pp, hp, rfl⟩ := (cH_r q).mp c
    have hin : vp_in (nI pp) 8 := vp_in_nI (by omega) (by decide)
    rw [cif_t ⟨pp, hp, rfl⟩, nI_clamp (by omega)] at hQ
    rw [nI_clamp (by omega), bH_clan q.b pp (by omega), bH_vil q.b pp (by omega), bH_coin q.b pp (by omega), bH_feud q.b pp (by omega)]
    refine ⟨fun e => ?_, fun e => ?_, fun e => ?_, fun e => ?_, fun e => ?_, fun n0 n1 n2 n3 n4 => ?_⟩
    · subst e; exact ⟨hin, hQ⟩
    · subst e; exact ⟨hin, hQ⟩
    · subst e; exact ⟨hin, hQ⟩
    · subst e; exact ⟨hin, hQ⟩
    · subst e; exact c_livingIn q (qi_i hQ)
    · have et : abF V pp x = (-1) := by unfold abF; rw [if_neg n0, if_neg n1, if_neg n2, if_neg n3, if_neg n4]
      rw [et] at hQ; exact hQ
  · rw [cif_f (fun e => c ((cH_r q).mpr e))] at hQ; exact hQ
theorem m_about (hs : SL h) (w : Wf V) (hV : MV I V) {p x : Int32} (hQ : ∀ I', FrM I I' → Q (some (.int (abtQ V p x))) h I' L) : (CT E mX12_about (d + 2) 0 0 [.ref (eB E + 83), .int p, .int x] h I L Q) := by
  have n8 := w.H.n8
  have n20 := w.P.n20
  have hQ := hQ _ (FrM.u0 (I := I))
  have hV1 : MV (uI I 83 0 0) V := hV.fr FrM.u0
  unfold abtQ at hQ
  refine w_X12_about hs _ _ (br_c (fun c => ?_) (fun c => ?_))
  · obtain ⟨pp, hp, rfl⟩ := (mH_r w hV).mp c
    have hin : vp_in (nI pp) 32 := vp_in_nI (by omega) (by decide)
    rw [cif_t ⟨pp, hp, rfl⟩, nI_clamp (by omega)] at hQ
    rw [nI_clamp (by omega), hV 91 (by decide) (by decide), hV 92 (by decide) (by decide), hV 93 (by decide) (by decide), hV 94 (by decide) (by decide)]
    refine ⟨fun e => ?_, fun e => ?_, fun e => ?_, fun e => ?_, fun e => ?_, fun n0 n1 n2 n3 n4 => ?_⟩
    · subst e; exact ⟨hin, hQ⟩
    · subst e; exact ⟨hin, hQ⟩
    · subst e; exact ⟨hin, hQ⟩
    · subst e; exact ⟨hin, hQ⟩
    · subst e
      have hQ : Q (some (.int (nI (pct (fun r => V 96 r = nI pp ∧ V 100 r = 0) (cP V))))) h (uI I 83 0 0) L := hQ
      have K : ∀ k, k ≤ cP V → (J E mX12_about (d + 2) Q 0 0 83 [some (.ref (eB E + 83)), some (.int (nI pp)), some (.int 4), some (.int (nI (pct (fun r => V 96 r = nI pp ∧ V 100 r = 0) k))), some (.int (nI k))] [] h (uI I 83 0 0) L) := by
        refine dn (cP V) ?_ ?_
        · exact w_X12_about_83 hs _ _ _ _ (br_t (by rw [hV1 95 (by decide) (by decide), w.P.n]; exact nI_le (Nat.le_refl _) (by omega)) hQ)
        · intro k hk ih
          refine w_X12_about_83 hs _ _ _ _ (br_f (by rw [hV1 95 (by decide) (by decide), w.P.n]; exact nI_ge hk (by omega)) ⟨vp_in_nI (by omega) (by decide), ?_⟩)
          rw [nI_clamp (by omega), hV1 96 (by decide) (by decide), hV1 100 (by decide) (by decide), nI_1 k]
          rintro y5 rfl
          by_cases c1 : V 96 k = nI pp ∧ V 100 k = 0
          · rw [bI_t c1, nI_1]
            rw [pct_y (p := fun r => V 96 r = nI pp ∧ V 100 r = 0) c1] at ih
            exact ih
          · rw [bI_f c1]
            rw [pct_n (p := fun r => V 96 r = nI pp ∧ V 100 r = 0) c1] at ih
            simpa using ih
      exact K 0 (by omega)
    · have et : abF V pp x = (-1) := by unfold abF; rw [if_neg n0, if_neg n1, if_neg n2, if_neg n3, if_neg n4]
      rw [et] at hQ; exact hQ
  · rw [cif_f (fun e => c ((mH_r w hV).mpr e))] at hQ; exact hQ
noncomputable def fltQ (V : mI) (x : Int32) : Int32 := if x = 0 then V 86 0 else if x = 1 then V 87 0 else (-1)
theorem c_fault (q : CQ h I V) {x : Int32} (hQ : Q (some (.int (fltQ V x))) h I L) : (CT E mX11_fault d 0 0 [.ref (eB E + 0), .int x] h I L Q) := by
  refine w_X11_fault q.s _ ?_
  rw [bS_f q.b, bS_p q.b]
  refine ⟨fun e => ?_, fun e => ?_, fun n0 n1 => ?_⟩
  · subst e; exact hQ
  · subst e; exact hQ
  · have et : fltQ V x = (-1) := by unfold fltQ; rw [if_neg n0, if_neg n1]
    rw [et] at hQ; exact hQ
theorem m_fault (hs : SL h) (hV : MV I V) {x : Int32} (hQ : ∀ I', FrM I I' → Q (some (.int (fltQ V x))) h I' L) : (CT E mX12_fault d 0 0 [.ref (eB E + 83), .int x] h I L Q) := by
  refine w_X12_fault hs _ ?_
  rw [hV 86 (by decide) (by decide), hV 87 (by decide) (by decide)]
  exact hQ _ FrM.u0

noncomputable def mtF (V : mI) (m : Nat) (x : Int32) : Int32 := if x = 0 then V 107 m else if x = 1 then V 108 m else if x = 2 then V 109 m else if x = 3 then V 110 m else if x = 4 then V 111 m else if x = 5 then V 112 m else if x = 6 then V 113 m else if x = 7 then V 114 m else if x = 8 then cif (ltA V m) 1 0 else (-1)
noncomputable def mchQ (V : mI) (m x : Int32) : Int32 := cif (inN m (cM V)) (mtF V m.toNatClampNeg x) (-1)
theorem bI_cif {p : Prop} {i : Decidable (¬ cif p (1 : Int32) 0 = 0)} : @bI (¬ cif p (1 : Int32) 0 = 0) i = cif p 1 0 := by
  by_cases c : p
  · exact (bI_t (by rw [cif_t c]; decide)).trans (cif_t c).symm
  · exact (bI_f (by rw [cif_f c]; simp)).trans (cif_f c).symm
theorem c_match (q : CQ h I V) {m x : Int32} (hQ : ∀ I', FrC I I' → Kc I' V → Q (some (.int (mchQ V m x))) h I' L) : (CT E mX11_match (d + 6) 0 0 [.ref (eB E + 0), .int m, .int x] h I L Q) := by
  have n30 := q.w.M.n30
  have hQ0 := hQ I FrC.rf q.k
  unfold mchQ at hQ hQ0
  refine w_X11_match q.s _ _ (br_c (fun c => ?_) (fun c => ?_))
  · obtain ⟨mm, hm, rfl⟩ := (cM_r q).mp c
    have hin : vp_in (nI mm) 30 := vp_in_nI (by omega) (by decide)
    rw [cif_t ⟨mm, hm, rfl⟩, nI_clamp (by omega)] at hQ hQ0
    rw [nI_clamp (by omega), bM_bri q.b mm (by omega), bM_gro q.b mm (by omega), bM_sta q.b mm (by omega), bM_gif q.b mm (by omega), bM_bac q.b mm (by omega), bM_pai q.b mm (by omega), bM_ask q.b mm (by omega), bM_sin q.b mm (by omega)]
    refine ⟨fun e => ?_, fun e => ?_, fun e => ?_, fun e => ?_, fun e => ?_, fun e => ?_, fun e => ?_, fun e => ?_, fun e => ?_, fun n0 n1 n2 n3 n4 n5 n6 n7 n8 => ?_⟩
    · subst e; exact ⟨hin, hQ0⟩
    · subst e; exact ⟨hin, hQ0⟩
    · subst e; exact ⟨hin, hQ0⟩
    · subst e; exact ⟨hin, hQ0⟩
    · subst e; exact ⟨hin, hQ0⟩
    · subst e; exact ⟨hin, hQ0⟩
    · subst e; exact ⟨hin, hQ0⟩
    · subst e; exact ⟨hin, hQ0⟩
    · subst e
      refine c_isLate q hm (fun I' j' k' => qi_i ?_)
      rw [bI_cif]
      exact hQ I' j'.fr k'
    · have et : mtF V mm x = (-1) := by unfold mtF; rw [if_neg n0, if_neg n1, if_neg n2, if_neg n3, if_neg n4, if_neg n5, if_neg n6, if_neg n7, if_neg n8]
      rw [et] at hQ0; exact hQ0
  · rw [cif_f (fun e => c ((cM_r q).mpr e))] at hQ0; exact hQ0
theorem m_match (hs : SL h) (w : Wf V) (hV : MV I V) {m x : Int32} (hQ : ∀ I', FrM I I' → Q (some (.int (mchQ V m x))) h I' L) : (CT E mX12_match (d + 4) 0 0 [.ref (eB E + 83), .int m, .int x] h I L Q) := by
  have n30 := w.M.n30
  have hQ0 := hQ _ (FrM.u0 (I := I))
  have hV1 : MV (uI I 83 0 0) V := hV.fr FrM.u0
  unfold mchQ at hQ hQ0
  refine w_X12_match hs _ _ (br_c (fun c => ?_) (fun c => ?_))
  · obtain ⟨mm, hm, rfl⟩ := (mM_r w hV).mp c
    have hin : vp_in (nI mm) 120 := vp_in_nI (by omega) (by decide)
    rw [cif_t ⟨mm, hm, rfl⟩, nI_clamp (by omega)] at hQ hQ0
    rw [nI_clamp (by omega), hV 107 (by decide) (by decide), hV 108 (by decide) (by decide), hV 109 (by decide) (by decide), hV 110 (by decide) (by decide), hV 111 (by decide) (by decide), hV 112 (by decide) (by decide), hV 113 (by decide) (by decide), hV 114 (by decide) (by decide)]
    refine ⟨fun e => ?_, fun e => ?_, fun e => ?_, fun e => ?_, fun e => ?_, fun e => ?_, fun e => ?_, fun e => ?_, fun e => ?_, fun n0 n1 n2 n3 n4 n5 n6 n7 n8 => ?_⟩
    · subst e; exact ⟨hin, hQ0⟩
    · subst e; exact ⟨hin, hQ0⟩
    · subst e; exact ⟨hin, hQ0⟩
    · subst e; exact ⟨hin, hQ0⟩
    · subst e; exact ⟨hin, hQ0⟩
    · subst e; exact ⟨hin, hQ0⟩
    · subst e; exact ⟨hin, hQ0⟩
    · subst e; exact ⟨hin, hQ0⟩
    · subst e
      refine m_isLate hs w hV1 hm (fun I' l' => qi_i ?_)
      rw [bI_cif]
      exact hQ I' (FrM.tr FrM.u0 l'.fr)
    · have et : mtF V mm x = (-1) := by unfold mtF; rw [if_neg n0, if_neg n1, if_neg n2, if_neg n3, if_neg n4, if_neg n5, if_neg n6, if_neg n7, if_neg n8]
      rw [et] at hQ0; exact hQ0
  · rw [cif_f (fun e => c ((mM_r w hV).mpr e))] at hQ0; exact hQ0
end QU
