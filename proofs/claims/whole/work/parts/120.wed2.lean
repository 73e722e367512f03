/-! update: wed, the runs -/
section WE
variable {E : Envt} {d : Nat} {Q : Pst} {h : mS} {I I' V W : mI} {L : mL}
theorem wed_c (q : CQ h I W) {m b g x y v u t1 t2 : Nat} {f : Nat → Int32} (hm : m < cM W) (h1 : W 109 m = 1) (b1 : b < cP W) (b2 : W 107 m = nI b) (g1 : g < cP W) (g2 : W 108 m = nI g) (g3 : W 97 g = 1) (hx : x < 8) (hy : y < 8) (hne : x ≠ y) (hv : v < 5) (hu : u < 5) (tv : TR h I W t1 v) (tu : TR h I W t2 u) (ff : ∀ j, j < 11 → j ≠ 6 → I 64 j = f j) (fz : ∀ j, j < 5 → bz (f j))
    (i6 : I' 6 = upd (upd (I 6) x (fwX 0 y (I 6 x))) y (fwX 0 x (I 6 y))) (i12 : I' 12 = upd (upd (I 12) b (nI g)) g (nI b)) (i13 : I' 13 = upd (upd (I 13) b (-1)) g (-1)) (i15 : I' 15 = upd (I 15) b 0) (i16 : I' 16 = upd (I 16) b 1) (i27 : I' 27 = upd (I 27) m 2) (i30 : I' 30 = upd (I 30) m (I 28 m)) (i32 : I' 32 = upd (I 32) m (I 1 0)) (i33 : I' 33 = va_cpy (I 64) (I 33) 0 (11 * m) 11) (io : ∀ a, a ≠ 6 → a ≠ 12 → a ≠ 13 → a ≠ 15 → a ≠ 16 → a ≠ 27 → a ≠ 30 → a ≠ 32 → a ≠ 33 → I' a = I a) :
    CQ (uRh (uRh h 34 m (some t1)) 35 m (some t2)) I' (wdW W m b g x y v u f) := by
  have n30 := q.w.M.n30
  have n20 := q.w.P.n20
  have hs1 : SL (uRh (uRh h 34 m (some t1)) 35 m (some t2)) := SL_uR (SL_uR q.s (by decide)) (by decide)
  have uh : UH h (uRh (uRh h 34 m (some t1)) 35 m (some t2)) := UH.tr (UH.r (by omega)) (UH.r (by omega))
  have o : ∀ {a}, a < 116 → a ≠ 101 → a ≠ 102 → a ≠ 103 → a ≠ 109 → a ≠ 114 → a ≠ 94 → a ≠ 115 → a ≠ 112 → wdW W m b g x y v u f a = W a := fun h0 h1 h2 h3 h4 h5 h6 h7 h8 => wd_o (Or.inl h0) h1 h2 h3 h4 h5 h6 h7 h8
  have tI : ∀ a, (38 ≤ a ∧ a ≤ 45) ∨ 147 ≤ a → I' a = I a := fun a ha => io a (by omega) (by omega) (by omega) (by omega) (by omega) (by omega) (by omega) (by omega) (by omega)
  have tw : ∀ {t k : Nat}, TR h I (cpV (cpV W v (7 + 2 * m)) u (8 + 2 * m)) t k → TR (uRh (uRh h 34 m (some t1)) 35 m (some t2)) I' (wdW W m b g x y v u f) t k := fun w => (w.uh q.s uh).cv (fun a h1 h2 => wd_t h1 h2) tI
  have w1 : WfT (cpV W v (7 + 2 * m)) := cpV_wf q.w.T hv (by omega) (by omega)
  have to : ∀ {t k : Nat}, k < 67 → k ≠ 7 + 2 * m → k ≠ 8 + 2 * m → TR h I W t k → TR h I (cpV (cpV W v (7 + 2 * m)) u (8 + 2 * m)) t k := fun hk n1 n2 w => (w.cpo q.w.T hk (by omega) n1).cpo w1 hk (by omega) n2
  have r36 : (uRh (uRh h 34 m (some t1)) 35 m (some t2)).2.1 36 = h.2.1 36 := by
    show uR (uR h.2.1 34 m (some t1)) 35 m (some t2) 36 = _
    rw [uR_ne (by decide), uR_ne (by decide)]
  have r34 : ∀ k, (uRh (uRh h 34 m (some t1)) 35 m (some t2)).2.1 34 k = if k = m then some t1 else h.2.1 34 k := fun k => by
    show uR (uR h.2.1 34 m (some t1)) 35 m (some t2) 34 k = _
    rw [uR_ne (by decide)]
    simp [uR]
  have r35 : ∀ k, (uRh (uRh h 34 m (some t1)) 35 m (some t2)).2.1 35 k = if k = m then some t2 else h.2.1 35 k := fun k => by
    show uR (uR h.2.1 34 m (some t1)) 35 m (some t2) 35 k = _
    simp [uR]
  refine ⟨hs1, ⟨?_, ⟨?_, ?_, ?_, ?_, ?_⟩, ⟨?_, ?_, ?_, ?_, ?_, ?_, ?_, ?_, ?_, by show ∀ i, i < 20 → bz (I' 14 i); rw [io 14 (by decide) (by decide) (by decide) (by decide) (by decide) (by decide) (by decide) (by decide) (by decide)]; exact bP_alz q.b, by show ∀ i, i < 20 → bz (I' 16 i); rw [i16]; exact bz_up (Or.inr rfl) (bP_waz q.b)⟩, ⟨fun i hi => ?_, trivial⟩, ?_, ⟨?_, ?_, ?_, ?_, ?_, ?_, ?_, ?_, ?_, fun k j hk h2 hj h6 => ?_⟩, ⟨fun k hk => ?_, fun k hk h2 => ?_, fun i t hi e => ?_, fun i t hi e => ?_⟩⟩, ⟨?_, wd_wH q.w.H hx hy hne, wd_wP q.w.P b1 g1, ?_, ?_, wd_wM q.w.M, wd_wT q.w.T hv hu (by omega), wd_wW q.w.W fz⟩, ?_⟩
  · exact q.b.S.cv (fun a ha => o (by omega) (by omega) (by omega) (by omega) (by omega) (by omega) (by omega) (by omega) (by omega)) (fun a ha => io a (by omega) (by omega) (by omega) (by omega) (by omega) (by omega) (by omega) (by omega) (by omega))
  · show I' 2 0 = _
    rw [o (by decide) (by decide) (by decide) (by decide) (by decide) (by decide) (by decide) (by decide) (by decide), io 2 (by decide) (by decide) (by decide) (by decide) (by decide) (by decide) (by decide) (by decide) (by decide)]; exact bH_n q.b
  · show ∀ i, i < 8 → I' 3 i = _
    rw [o (by decide) (by decide) (by decide) (by decide) (by decide) (by decide) (by decide) (by decide) (by decide), io 3 (by decide) (by decide) (by decide) (by decide) (by decide) (by decide) (by decide) (by decide) (by decide)]; exact bH_clan q.b
  · show ∀ i, i < 8 → I' 4 i = _
    rw [o (by decide) (by decide) (by decide) (by decide) (by decide) (by decide) (by decide) (by decide) (by decide), io 4 (by decide) (by decide) (by decide) (by decide) (by decide) (by decide) (by decide) (by decide) (by decide)]; exact bH_vil q.b
  · show ∀ i, i < 8 → I' 5 i = _
    rw [o (by decide) (by decide) (by decide) (by decide) (by decide) (by decide) (by decide) (by decide) (by decide), io 5 (by decide) (by decide) (by decide) (by decide) (by decide) (by decide) (by decide) (by decide) (by decide)]; exact bH_coin q.b
  · show ∀ i, i < 8 → I' 6 i = _
    rw [wd_94, i6, bH_feud q.b x hx, bH_feud q.b y hy]
    exact upE (upE (bH_feud q.b))
  · show I' 7 0 = _
    rw [o (by decide) (by decide) (by decide) (by decide) (by decide) (by decide) (by decide) (by decide) (by decide), io 7 (by decide) (by decide) (by decide) (by decide) (by decide) (by decide) (by decide) (by decide) (by decide)]; exact bP_n q.b
  · show ∀ i, i < 20 → I' 8 i = _
    rw [o (by decide) (by decide) (by decide) (by decide) (by decide) (by decide) (by decide) (by decide) (by decide), io 8 (by decide) (by decide) (by decide) (by decide) (by decide) (by decide) (by decide) (by decide) (by decide)]; exact bP_hou q.b
  · show ∀ i, i < 20 → I' 9 i = _
    rw [o (by decide) (by decide) (by decide) (by decide) (by decide) (by decide) (by decide) (by decide) (by decide), io 9 (by decide) (by decide) (by decide) (by decide) (by decide) (by decide) (by decide) (by decide) (by decide)]; exact bP_kin q.b
  · show ∀ i, i < 20 → I' 10 i = _
    rw [o (by decide) (by decide) (by decide) (by decide) (by decide) (by decide) (by decide) (by decide) (by decide), io 10 (by decide) (by decide) (by decide) (by decide) (by decide) (by decide) (by decide) (by decide) (by decide)]; exact bP_sta q.b
  · show ∀ i, i < 20 → I' 11 i = _
    rw [o (by decide) (by decide) (by decide) (by decide) (by decide) (by decide) (by decide) (by decide) (by decide), io 11 (by decide) (by decide) (by decide) (by decide) (by decide) (by decide) (by decide) (by decide) (by decide)]; exact bP_bor q.b
  · show ∀ i, i < 20 → I' 12 i = _
    rw [wd_101, i12]; exact upE (upE (bP_spo q.b))
  · show ∀ i, i < cP _ → I' 14 i = _
    rw [wd_P, o (by decide) (by decide) (by decide) (by decide) (by decide) (by decide) (by decide) (by decide) (by decide), io 14 (by decide) (by decide) (by decide) (by decide) (by decide) (by decide) (by decide) (by decide) (by decide)]; exact bP_ali q.b
  · show ∀ i, i < 20 → I' 15 i = _
    rw [wd_102, i15]; exact upE (bP_wid q.b)
  · show ∀ i, i < cP _ → _ → I' 16 i = _
    rw [wd_P, wd_103, o (by decide) (by decide) (by decide) (by decide) (by decide) (by decide) (by decide) (by decide) (by decide), i16]
    intro i hi h97
    have eg : i ≠ g := fun e => by rw [e, g3] at h97; exact absurd h97 (by decide)
    rw [upd_ne' eg]
    unfold upd
    split
    · rfl
    · exact bP_was q.b i hi h97
  · show I' 13 i = _
    rw [wd_P] at hi
    rw [wd_opA q.w hm, i13]
    unfold upd
    have key : hasB W i m = true ↔ (i = g ∨ i = b) := by
      rw [hasB_iff, b2, g2]
      constructor
      · rintro ⟨-, e | e⟩
        · exact Or.inr ((nI_eq (by omega) (by omega)).mp e).symm
        · exact Or.inl ((nI_eq (by omega) (by omega)).mp e).symm
      · rintro (rfl | rfl)
        · exact ⟨Or.inr h1, Or.inr rfl⟩
        · exact ⟨Or.inr h1, Or.inl rfl⟩
    by_cases e1 : i = g
    · rw [if_pos e1, if_pos (key.mpr (Or.inl e1))]
    · rw [if_neg e1]
      by_cases e2 : i = b
      · rw [if_pos e2, if_pos (key.mpr (Or.inr e2))]
      · rw [if_neg e2, if_neg (fun e => (key.mp e).elim e1 e2)]
        exact bO_op q.b i hi
  · exact q.b.N.cv (fun a ha => o (by omega) (by omega) (by omega) (by omega) (by omega) (by omega) (by omega) (by omega) (by omega)) (fun a ha => io a (by omega) (by omega) (by omega) (by omega) (by omega) (by omega) (by omega) (by omega) (by omega))
  · show I' 24 0 = _
    rw [o (by decide) (by decide) (by decide) (by decide) (by decide) (by decide) (by decide) (by decide) (by decide), io 24 (by decide) (by decide) (by decide) (by decide) (by decide) (by decide) (by decide) (by decide) (by decide)]; exact bM_n q.b
  · show ∀ k, k < 30 → I' 25 k = _
    rw [o (by decide) (by decide) (by decide) (by decide) (by decide) (by decide) (by decide) (by decide) (by decide), io 25 (by decide) (by decide) (by decide) (by decide) (by decide) (by decide) (by decide) (by decide) (by decide)]; exact bM_bri q.b
  · show ∀ k, k < 30 → I' 26 k = _
    rw [o (by decide) (by decide) (by decide) (by decide) (by decide) (by decide) (by decide) (by decide) (by decide), io 26 (by decide) (by decide) (by decide) (by decide) (by decide) (by decide) (by decide) (by decide) (by decide)]; exact bM_gro q.b
  · show ∀ k, k < 30 → I' 27 k = _
    rw [wd_109, i27]; exact upE (bM_sta q.b)
  · show ∀ k, k < 30 → I' 28 k = _
    rw [o (by decide) (by decide) (by decide) (by decide) (by decide) (by decide) (by decide) (by decide) (by decide), io 28 (by decide) (by decide) (by decide) (by decide) (by decide) (by decide) (by decide) (by decide) (by decide)]; exact bM_gif q.b
  · show ∀ k, k < 30 → I' 29 k = _
    rw [o (by decide) (by decide) (by decide) (by decide) (by decide) (by decide) (by decide) (by decide) (by decide), io 29 (by decide) (by decide) (by decide) (by decide) (by decide) (by decide) (by decide) (by decide) (by decide)]; exact bM_bac q.b
  · show ∀ k, k < 30 → I' 30 k = _
    rw [wd_112, i30, bM_gif q.b m (by omega)]; exact upE (bM_pai q.b)
  · show ∀ k, k < 30 → I' 31 k = _
    rw [o (by decide) (by decide) (by decide) (by decide) (by decide) (by decide) (by decide) (by decide) (by decide), io 31 (by decide) (by decide) (by decide) (by decide) (by decide) (by decide) (by decide) (by decide) (by decide)]; exact bM_ask q.b
  · show ∀ k, k < 30 → I' 32 k = _
    rw [wd_114, i32, bS_y q.b]; exact upE (bM_sin q.b)
  · show I' 33 (11 * k + j) = _
    rw [wd_M] at hk
    rw [wd_109] at h2
    rw [i33, wd_115]
    by_cases e : k = m
    · rw [e, fc_in hj, pk_cpy_in (by omega) (by omega), show 0 + (11 * m + j - 11 * m) = j by omega]
      exact ff j hj h6
    · rw [upd_ne' e] at h2
      rw [fc_out (by omega), pk_cpy_out (by omega)]
      exact bM_fac q.b k j hk h2 hj h6
  · show ∃ t, _ = some t ∧ _
    rw [r36]
    obtain ⟨t, h3, h4⟩ := q.b.X.tx k hk
    exact ⟨t, h3, tw (to (by omega) (by omega) (by omega) h4)⟩
  · show ∃ t u, _ = some t ∧ _
    rw [wd_M] at hk
    rw [wd_109] at h2
    rw [r34, r35]
    by_cases e : k = m
    · rw [if_pos e, if_pos e, e]
      exact ⟨t1, t2, rfl, tw ((tv.cp q.w.T (by omega)).cpo w1 (by omega) (by omega) (by omega)), rfl, tw ((tu.cpo q.w.T (by omega) (by omega) (by omega)).cp w1 (by omega))⟩
    · rw [if_neg e, if_neg e]
      rw [upd_ne' e] at h2
      obtain ⟨t, u, h3, h4, h5, h6⟩ := q.b.X.wt k hk h2
      exact ⟨t, u, h3, tw (to (by omega) (by omega) (by omega) h4), h5, tw (to (by omega) (by omega) (by omega) h6)⟩
  · rw [r34] at e
    by_cases c : i = m
    · rw [if_pos c] at e
      obtain ⟨nl, w⟩ := tv
      cases e
      exact ⟨_, _, w.LT.uh q.s uh⟩
    · rw [if_neg c] at e
      obtain ⟨nl, nt, w⟩ := q.b.X.a i t hi e
      exact ⟨_, _, w.uh q.s uh⟩
  · rw [r35] at e
    by_cases c : i = m
    · rw [if_pos c] at e
      obtain ⟨nl, w⟩ := tu
      cases e
      exact ⟨_, _, w.LT.uh q.s uh⟩
    · rw [if_neg c] at e
      obtain ⟨nl, nt, w⟩ := q.b.X.b i t hi e
      exact ⟨_, _, w.uh q.s uh⟩
  · exact q.w.S.cv (fun a ha => o (by omega) (by omega) (by omega) (by omega) (by omega) (by omega) (by omega) (by omega) (by omega))
  · exact q.w.N.cv (fun a ha => o (by omega) (by omega) (by omega) (by omega) (by omega) (by omega) (by omega) (by omega) (by omega))
  · exact q.w.R.cv (fun a ha => o (by omega) (by omega) (by omega) (by omega) (by omega) (by omega) (by omega) (by omega) (by omega))
  · have k := q.k.cv (I' := I') (V' := wdW W m b g x y v u f) (io 57 (by decide) (by decide) (by decide) (by decide) (by decide) (by decide) (by decide) (by decide) (by decide)) (io 58 (by decide) (by decide) (by decide) (by decide) (by decide) (by decide) (by decide) (by decide) (by decide)) (o (by decide) (by decide) (by decide) (by decide) (by decide) (by decide) (by decide) (by decide) (by decide)) (o (by decide) (by decide) (by decide) (by decide) (by decide) (by decide) (by decide) (by decide) (by decide)) (o (by decide) (by decide) (by decide) (by decide) (by decide) (by decide) (by decide) (by decide) (by decide)) (fun k _ => by rw [o (by decide) (by decide) (by decide) (by decide) (by decide) (by decide) (by decide) (by decide) (by decide)])
    exact k
noncomputable def wedX (V : mI) (m : Nat) : mI := wdW (payV V (hN V (mgN V m)) (hN V (mbN V m)) (V 110 m - V 110 m / 2)) m (mbN V m) (mgN V m) (hN V (mbN V m)) (hN V (mgN V m)) (vN V (mbN V m)) (vN V (mgN V m)) (faA V (mbN V m) (mgN V m) (kiA V (vN V (mbN V m)) (V 88 0) (mbN V m) (mgN V m)))
noncomputable def wedN (V : mI) (m : Int32) : Int32 × mI := cip (inN m (cM V) ∧ V 109 m.toNatClampNeg = 1 ∧ mayA V (mbN V m.toNatClampNeg) (mgN V m.toNatClampNeg) ∧ V 110 m.toNatClampNeg - V 110 m.toNatClampNeg / 2 ≤ V 93 (hN V (mgN V m.toNatClampNeg))) (1, wedX V m.toNatClampNeg) (0, V)
theorem c_wed (q : CQ h I V) {m : Int32} (hQ : ∀ h' I', UH h h' → UC I I' → CQ h' I' (wedN V m).2 → Q (some (.int (wedN V m).1)) h' I' L) : (CT E mX11_wed (d + 6) 0 0 [.ref (eB E + 0), .int m] h I L Q) := by
  have n20 := q.w.P.n20
  have n30 := q.w.M.n30
  unfold wedN at hQ
  have no : (¬ (inN m (cM V) ∧ V 109 m.toNatClampNeg = 1 ∧ mayA V (mbN V m.toNatClampNeg) (mgN V m.toNatClampNeg) ∧ V 110 m.toNatClampNeg - V 110 m.toNatClampNeg / 2 ≤ V 93 (hN V (mgN V m.toNatClampNeg)))) → ∀ I', FrC I I' → Kc I' V → Q (some (.int 0)) h I' L := fun hn I' f' k' => by
    rw [cip_f hn] at hQ
    exact hQ h I' UH.rf (FrC.uc f') (q.fr f' k')
  refine w_X11_wed q.s _ ⟨fun c => vpM q.w ((cM_r q).mp c) (by decide) (by decide), br_c (fun c => ?_) (fun c => no (fun e => c ⟨(cM_r q).mpr e.1, ?_⟩) I FrC.rf q.k)⟩
  · have i1 := (cM_r q).mp c.1
    have c2 := c.2
    have j1 := i1
    obtain ⟨m, hm, rfl⟩ := i1
    have hin : vp_in (nI m) 30 := vp_in_nI (by omega) (by decide)
    rw [nI_clamp (show m < 2 ^ 31 by omega)] at hQ no c2 ⊢
    rw [bM_sta q.b m (by omega)] at c2
    obtain ⟨b1, b2, -⟩ := mb_ok q.w hm
    obtain ⟨g1, g2, g3⟩ := mg_ok q.w hm
    obtain ⟨hb8, ehb⟩ := hN_ok q.w (p := mbN V m) (by omega)
    obtain ⟨hg8, ehg⟩ := hN_ok q.w (p := mgN V m) (by omega)
    obtain ⟨vb5, evb⟩ := vN_ok q.w (p := mbN V m) (by omega)
    obtain ⟨vg5, evg⟩ := vN_ok q.w (p := mgN V m) (by omega)
    rw [bM_gif q.b m (by omega), bM_pai q.b m (by omega), bM_gro q.b m (by omega), bM_bri q.b m (by omega), b2, g2, nI_clamp (show mbN V m < 2 ^ 31 by omega), nI_clamp (show mgN V m < 2 ^ 31 by omega), bP_hou q.b _ (show mgN V m < 20 by omega), bP_hou q.b _ (show mbN V m < 20 by omega), ehb, ehg, q.w.M.pa1 m hm c2]
    refine ⟨hin, ?_⟩
    rintro y6 rfl y7 rfl y8 rfl
    refine ⟨hin, vp_in_nI (by omega) (by decide), ?_⟩
    rintro y13 rfl
    refine ⟨vp_in_nI (by omega) (by decide), ?_⟩
    rintro y17 rfl
    refine c_letsWed q b1 g1 (fun I1 j1' k1 _ _ gf => qi_i ?_)
    by_cases cm : mayA V (mbN V m) (mgN V m)
    · rw [cif_t cm]
      refine br_f (by decide) ?_
      have q1 : CQ h I1 V := q.fr j1'.fr k1
      refine c_pay q1 hg8 hb8 (fun c3 I2 f2 q2 => qi_i ?_) (fun c3 => qi_i (br_t rfl (no (fun e => c3 e.2.2.2) I1 j1'.fr k1)))
      refine br_f (by decide) ?_
      rw [cip_t ⟨j1, c2, cm, c3⟩] at hQ
      dsimp only at hQ
      unfold wedX at hQ
      generalize hW : payV V (hN V (mgN V m)) (hN V (mbN V m)) (V 110 m - V 110 m / 2) = W at hQ q2
      have eW : ∀ a, a ≠ 93 → W a = V a := fun a ha => by rw [← hW]; exact pay_o ha
      have hmW : m < cM W := by unfold cM; rw [eW 106 (by decide)]; exact hm
      have cPW : cP W = cP V := by unfold cP; rw [eW 95 (by decide)]
      refine c_customOf q2 hb8 (fun t1 nl1 T1 => qt_i ?_)
      refine c_customOf q2 hg8 (fun t2 nl2 T2 => qt_i ?_)
      rw [eW 92 (by decide)] at T1 T2
      have e11m : nI m * 11 = nI (11 * m) := by rw [N11, pk_mul, Nat.mul_comm]
      refine w_X4_keepDay q.s _ (lt64 q.s) (kk64 q.s) T1.LT T2.LT ?_
      rw [e11m, nI_clamp (show 11 * m < 2 ^ 31 by omega), nI_clamp (show m < 2 ^ 31 by omega)]
      refine ⟨nI_pos (by omega), by omega, by omega, hin, gv_i ⟨SL_uR (SL_uR q.s (by decide)) (by decide), ?_⟩⟩
      have hs1 : SL (uRh (uRh h 34 m (some t1)) 35 m (some t2)) := SL_uR (SL_uR q.s (by decide)) (by decide)
      have hne : hN V (mbN V m) ≠ hN V (mgN V m) := fun e => cm.1 (by rw [ehb, ehg, e])
      have vx : vp_in (nI (hN V (mbN V m))) 8 := vp_in_nI hb8 (by decide)
      have vy : vp_in (nI (hN V (mgN V m))) 8 := vp_in_nI hg8 (by decide)
      refine w_X1_setFeud hs1 _ _ _ (br_t rfl ⟨vx, vy, qv_i ?_⟩)
      rw [nI_clamp (show hN V (mbN V m) < 2 ^ 31 by omega), nI_clamp (show hN V (mgN V m) < 2 ^ 31 by omega), uI_nj (Ne.symm hne)]
      have e25 := bM_bri q2.b m (by omega)
      have e26 := bM_gro q2.b m (by omega)
      rw [eW 107 (by decide), b2] at e25
      rw [eW 108 (by decide), g2] at e26
      refine c_closeR hs1 (b := mbN V m) (g := mgN V m) (by omega) (by omega) (by omega) ?_ ?_ (qv_i ?_)
      · rw [uI_ne (by decide), uI_ne (by decide), uI_ne (by decide), cpI_ne (by decide)]; exact e25
      · rw [uI_ne (by decide), uI_ne (by decide), uI_ne (by decide), cpI_ne (by decide)]; exact e26
      refine w_X7_marry hs1 _ _ ⟨vp_in_nI (by omega) (by decide), vp_in_nI (by omega) (by decide), qv_i ?_⟩
      rw [nI_clamp (show mbN V m < 2 ^ 31 by omega), nI_clamp (show mgN V m < 2 ^ 31 by omega)]
      refine hQ _ _ (UH.tr (UH.r (by omega)) (UH.r (by omega))) (fun a ha => ?_) (wed_c q2 hmW (by rw [eW 109 (by decide)]; exact c2) (by rw [cPW]; exact b1) (by rw [eW 107 (by decide)]; exact b2) (by rw [cPW]; exact g1) (by rw [eW 108 (by decide)]; exact g2) (by rw [eW 97 (by decide)]; exact g3) hb8 hg8 hne vb5 vg5 ⟨nl1, T1⟩ ⟨nl2, T2⟩ (fun j hj h6 => ?_) (fa_z q.w (by omega)) ?_ ?_ ?_ ?_ ?_ ?_ ?_ ?_ ?_ ?_)
      · rw [uI_ne (by omega), uI_ne (by omega), uI_ne (by omega), uI_ne (by omega), uI_ne (by omega), uI_ne (by omega), uI_ne (by omega), uI_ne (by omega), uI_ne (by omega), uI_ne (by omega), uI_ne (by omega), cpI_ne (by omega), f2 a (by omega)]
        exact j1'.fr a (by omega)
      · rw [f2 64 (by decide), gf j hj h6]; exact (fa_k h6).symm
      · simp (disch := decide) only [uI_ne, uI_at, cpI_ne]
        unfold fwX
        rw [if_pos rfl, if_pos rfl]
      · simp (disch := decide) only [uI_ne, uI_at, cpI_ne]
      · simp (disch := decide) only [uI_ne, uI_at, cpI_ne]
      · simp (disch := decide) only [uI_ne, uI_at, cpI_ne]
      · simp (disch := decide) only [uI_ne, uI_at, cpI_ne]
      · simp (disch := decide) only [uI_ne, uI_at, cpI_ne]
      · simp (disch := decide) only [uI_ne, uI_at, cpI_ne]
      · simp (disch := decide) only [uI_ne, uI_at, cpI_ne]
      · simp (disch := decide) only [uI_ne, uI_at, cpI_ne]
        funext j
        unfold cpI
        rw [if_pos rfl]
      · intro a h1 h2 h3 h4 h5 h6 h7 h8 h9
        rw [uI_ne h5, uI_ne h4, uI_ne h2, uI_ne h2, uI_ne h8, uI_ne h6, uI_ne h3, uI_ne h3, uI_ne h1, uI_ne h1, uI_ne h7, cpI_ne h9]
    · rw [cif_f cm]
      exact br_t rfl (no (fun e => cm e.2.2.1) I1 j1'.fr k1)
  · have n := e.2.1
    obtain ⟨m, hm, rfl⟩ := e.1
    rw [nI_clamp (by omega)] at n ⊢
    rw [bM_sta q.b m (by omega)]; exact n
theorem m_wed (hs : SL h) (w : Wf V) (hV : MV I V) {m : Int32} (hQ : ∀ I', UM I I' → MV I' (wedN V m).2 → Q (some (.int (wedN V m).1)) h I' L) : (CT E mX12_wed (d + 5) 0 0 [.ref (eB E + 83), .int m] h I L Q) := by
  have n20 := w.P.n20
  have n30 := w.M.n30
  unfold wedN at hQ
  have no : (¬ (inN m (cM V) ∧ V 109 m.toNatClampNeg = 1 ∧ mayA V (mbN V m.toNatClampNeg) (mgN V m.toNatClampNeg) ∧ V 110 m.toNatClampNeg - V 110 m.toNatClampNeg / 2 ≤ V 93 (hN V (mgN V m.toNatClampNeg)))) → ∀ I', FrM I I' → Q (some (.int 0)) h I' L := fun hn I' f' => by
    rw [cip_f hn] at hQ
    exact hQ I' f'.um (hV.fr f')
  refine w_X12_wed hs _ (br_c (fun c1 => ?_) (fun c1 => no (fun e => c1 ((mM_r w hV).mpr e.1)) _ FrM.u0))
  have i1 := (mM_r w hV).mp c1
  have j1 := i1
  obtain ⟨m, hm, rfl⟩ := i1
  have hin : vp_in (nI m) 120 := vp_in_nI (by omega) (by decide)
  rw [nI_clamp (show m < 2 ^ 31 by omega)] at hQ no ⊢
  rw [hV 109 (by decide) (by decide), hV 107 (by decide) (by decide), hV 108 (by decide) (by decide)]
  refine ⟨hin, br_c (fun c2 => ?_) (fun c2 => no (fun e => c2 e.2.1) _ FrM.u0)⟩
  obtain ⟨b1, b2, -⟩ := mb_ok w hm
  obtain ⟨g1, g2, -⟩ := mg_ok w hm
  obtain ⟨hb8, ehb⟩ := hN_ok w (p := mbN V m) (by omega)
  obtain ⟨hg8, ehg⟩ := hN_ok w (p := mgN V m) (by omega)
  obtain ⟨vb5, evb⟩ := vN_ok w (p := mbN V m) (by omega)
  obtain ⟨vg5, evg⟩ := vN_ok w (p := mgN V m) (by omega)
  rintro y6 rfl y7 rfl
  rw [b2, g2]
  have hV1 : MV (uI I 83 0 0) V := hV.fr FrM.u0
  refine m_mayWed hs w hV1 b1 g1 (fun I1 l1 _ => qi_i ?_)
  have hV2 : MV I1 V := hV1.fr l1.fr
  have fr1 : FrM I I1 := FrM.tr FrM.u0 l1.fr
  by_cases cm : mayA V (mbN V m) (mgN V m)
  · rw [cif_t cm]
    refine br_f (by decide) ?_
    rw [nI_clamp (show mbN V m < 2 ^ 31 by omega), hV2 96 (by decide) (by decide), hV2 92 (by decide) (by decide), ehb, nI_clamp (show hN V (mbN V m) < 2 ^ 31 by omega), evb]
    refine ⟨vp_in_nI (by omega) (by decide), vp_in_nI (by omega) (by decide), ?_⟩
    refine m_lookAt hs w hV2 b1 g1 vb5 (fun I2 l2 p2 s2 => qv_i ?_)
    have hV3 : MV I2 V := hV2.fr l2.fr
    have fr2 : FrM I I2 := FrM.tr fr1 l2.fr
    rw [hV3 110 (by decide) (by decide)]
    refine w_X12_pays hs _ _ ⟨hin, ?_⟩
    rw [nI_clamp (show m < 2 ^ 31 by omega), hV3 108 (by decide) (by decide), hV3 107 (by decide) (by decide), hV3 96 (by decide) (by decide), hV3 93 (by decide) (by decide), hV3 112 (by decide) (by decide), b2, g2, nI_clamp (show mbN V m < 2 ^ 31 by omega), nI_clamp (show mgN V m < 2 ^ 31 by omega), ehb]
    refine ⟨vp_in_nI (by omega) (by decide), ?_⟩
    rintro y3 rfl
    rw [ehg, nI_clamp (show hN V (mbN V m) < 2 ^ 31 by omega), nI_clamp (show hN V (mgN V m) < 2 ^ 31 by omega)]
    refine ⟨vp_in_nI (by omega) (by decide), br_c (fun c3 => ⟨vp_in_nI (by omega) (by decide), vp_in_nI (by omega) (by decide), qi_i ?_⟩) (fun c3 => qi_i (br_t rfl (no (fun e => c3 e.2.2.2) I2 fr2)))⟩
    refine br_f (by decide) ?_
    rw [cip_t ⟨j1, c2, cm, c3⟩] at hQ
    dsimp only at hQ
    unfold wedX at hQ
    have ez : V 112 m + (V 110 m - V 110 m / 2) = V 110 m := by rw [w.M.pa1 m hm c2]; rw [Int32.add_comm]; exact Int32.sub_add_cancel _ _
    rw [ez]
    have v1 : MV (uI (uI I2 93 (hN V (mgN V m)) (V 93 (hN V (mgN V m)) - (V 110 m - V 110 m / 2))) 93 (hN V (mbN V m)) (uI I2 93 (hN V (mgN V m)) (V 93 (hN V (mgN V m)) - (V 110 m - V 110 m / 2)) 93 (hN V (mbN V m)) + (V 110 m - V 110 m / 2))) (payV V (hN V (mgN V m)) (hN V (mbN V m)) (V 110 m - V 110 m / 2)) := by
      unfold payV
      rw [uI_at, uI_at, hV3 93 (by decide) (by decide)]
      exact hV3.u.u
    have i133 : ∀ j, j < 11 → (uI (uI I2 93 (hN V (mgN V m)) (V 93 (hN V (mgN V m)) - (V 110 m - V 110 m / 2))) 93 (hN V (mbN V m)) (uI I2 93 (hN V (mgN V m)) (V 93 (hN V (mgN V m)) - (V 110 m - V 110 m / 2)) 93 (hN V (mbN V m)) + (V 110 m - V 110 m / 2))) 133 j = faA V (mbN V m) (mgN V m) (kiA V (vN V (mbN V m)) (V 88 0) (mbN V m) (mgN V m)) j := fun j hj => by
      rw [uI_ne (by decide), uI_ne (by decide)]; exact s2 j hj
    have um1 : UM I (uI (uI I2 93 (hN V (mgN V m)) (V 93 (hN V (mgN V m)) - (V 110 m - V 110 m / 2))) 93 (hN V (mbN V m)) (uI I2 93 (hN V (mgN V m)) (V 93 (hN V (mgN V m)) - (V 110 m - V 110 m / 2)) 93 (hN V (mbN V m)) + (V 110 m - V 110 m / 2))) := UM.tr fr2.um (UM.tr UM.u UM.u)
    generalize uI (uI I2 93 (hN V (mgN V m)) (V 93 (hN V (mgN V m)) - (V 110 m - V 110 m / 2))) 93 (hN V (mbN V m)) (uI I2 93 (hN V (mgN V m)) (V 93 (hN V (mgN V m)) - (V 110 m - V 110 m / 2)) 93 (hN V (mbN V m)) + (V 110 m - V 110 m / 2)) = I3 at v1 i133 um1 ⊢
    generalize hF : faA V (mbN V m) (mgN V m) (kiA V (vN V (mbN V m)) (V 88 0) (mbN V m) (mgN V m)) = f at i133 hQ
    have eW : ∀ a, a ≠ 93 → payV V (hN V (mgN V m)) (hN V (mbN V m)) (V 110 m - V 110 m / 2) a = V a := fun a ha => pay_o ha
    generalize payV V (hN V (mgN V m)) (hN V (mbN V m)) (V 110 m - V 110 m / 2) = W at v1 hQ eW
    have e110 := eW 110 (by decide)
    have hwe : V 110 m = W 110 m := by rw [e110]
    rw [hwe]
    have li : ∀ {U : mI}, (∀ a, 116 ≤ a → a ≤ 122 → U a = W a) → ∀ x, x < 67 → inN (U 116 x) 17 := fun hU x hx => by rw [hU 116 (by decide) (by decide), eW 116 (by decide)]; exact w.T.li x hx
    have K : ∀ k, k ≤ 11 → ∀ I', UM I I' → MV I' (fcV (uI W 112 m (W 110 m)) m f k) → (∀ j, j < 11 → I' 133 j = f j) → (J E mX12_wed (d + 5) Q 0 0 95 [some (.ref (eB E + 83)), some (.int (nI m)), some (.int (nI (mbN V m))), some (.int (nI (mgN V m))), some (.int (nI k))] [] h I' L) := by
      refine dn 11 ?_ ?_
      · intro I4 u4 v4 _
        have hne : hN V (mbN V m) ≠ hN V (mgN V m) := fun e => cm.1 (by rw [ehb, ehg, e])
        have cb : (nI (mbN V m)).toNatClampNeg = mbN V m := nI_clamp (by omega)
        have cg : (nI (mgN V m)).toNatClampNeg = mgN V m := nI_clamp (by omega)
        have xb : (nI (hN V (mbN V m))).toNatClampNeg = hN V (mbN V m) := nI_clamp (by omega)
        have xg : (nI (hN V (mgN V m))).toNatClampNeg = hN V (mgN V m) := nI_clamp (by omega)
        have o4 : ∀ {a}, a = 96 ∨ a = 92 → fcV (uI W 112 m (W 110 m)) m f 11 a = V a := fun ha => by rw [fc_o (by omega), uI_ne (by omega), eW _ (by omega)]
        have k1 : 7 + 2 * nI m = nI (7 + 2 * m) := by rw [N2, N7, pk_mul, nI_add]
        have k2 : nI (7 + 2 * m) + 1 = nI (8 + 2 * m) := by rw [nI_1]; congr 1; omega
        refine w_X12_wed_95 hs _ _ _ _ (br_t (nI_le (show 11 ≤ 11 by omega) (by decide)) ?_)
        rw [cb, v4 96 (by decide) (by decide), v4 92 (by decide) (by decide), o4 (by omega), o4 (by omega), ehb, xb, evb, k1, k2]
        refine ⟨vp_in_nI (by omega) (by decide), vp_in_nI (by omega) (by decide), ?_⟩
        refine m_copyText hs (li fun a h1 h2 => by rw [fc_o (by omega), uI_ne (by omega)]) v4 vb5 (by omega) (by omega) (fun I5 u5 v5 => qv_i ?_)
        rw [cg, v5 96 (by decide) (by decide), v5 92 (by decide) (by decide), cpV_o (by decide), cpV_o (by decide), o4 (by omega), o4 (by omega), ehg, xg, evg]
        refine ⟨vp_in_nI (by omega) (by decide), vp_in_nI (by omega) (by decide), ?_⟩
        refine m_copyText hs (fun x hx => ?_) v5 vg5 (by omega) (by omega) (fun I6 u6 v6 => qv_i ?_)
        · rw [cpV_116, fc_o (by decide), uI_ne (by decide), eW 116 (by decide)]
          split
          · exact w.T.li _ (by omega)
          · exact w.T.li x hx
        refine w_X12_comes hs _ _ ⟨hin, qv_i ?_⟩
        rw [nI_clamp (show m < 2 ^ 31 by omega)]
        have v7 : MV (uI (uI I6 109 m 2) 114 m (I6 88 0)) (clsV (wdT W m (vN V (mbN V m)) (vN V (mgN V m)) f) m 2) := by
          rw [v6 88 (by decide) (by decide)]
          exact v6.u.u
        have u7 : UM I (uI (uI I6 109 m 2) 114 m (I6 88 0)) := UM.tr (UM.tr (UM.tr u4 u5) u6) (UM.tr UM.u UM.u)
        generalize uI (uI I6 109 m 2) 114 m (I6 88 0) = I7 at v7 u7 ⊢
        have o7 : I7 96 = V 96 := by rw [v7 96 (by decide) (by decide), cls_o (by decide) (by decide), wdT_o (by decide) (by decide) (by decide), eW 96 (by decide)]
        rw [o7, ehb, ehg]
        have v8 : MV (uI (uI (uI (uI (uI I7 101 (mbN V m) (nI (mgN V m))) 101 (mgN V m) (nI (mbN V m))) 103 (mbN V m) 1) 103 (mgN V m) 1) 102 (mbN V m) 0) (wdP W m (mbN V m) (mgN V m) (vN V (mbN V m)) (vN V (mgN V m)) f) := v7.u.u.u.u.u
        have u8 : UM I (uI (uI (uI (uI (uI I7 101 (mbN V m) (nI (mgN V m))) 101 (mgN V m) (nI (mbN V m))) 103 (mbN V m) 1) 103 (mgN V m) 1) 102 (mbN V m) 0) := UM.tr u7 (UM.tr (UM.tr (UM.tr (UM.tr UM.u UM.u) UM.u) UM.u) UM.u)
        generalize uI (uI (uI (uI (uI I7 101 (mbN V m) (nI (mgN V m))) 101 (mgN V m) (nI (mbN V m))) 103 (mbN V m) 1) 103 (mgN V m) 1) 102 (mbN V m) 0 = I8 at v8 u8 ⊢
        have vx : vp_in (nI (hN V (mbN V m))) 32 := vp_in_nI (by omega) (by decide)
        have vy : vp_in (nI (hN V (mgN V m))) 32 := vp_in_nI (by omega) (by decide)
        refine w_X12_setFeud hs _ _ _ ⟨fun _ => vx, fun _ => vx, ?_⟩
        rintro y6 rfl
        refine ⟨vx, fun _ => vy, fun _ => vy, ?_⟩
        rintro y13 rfl
        rw [xb, xg, uI_nj (Ne.symm hne), v8 94 (by decide) (by decide)]
        exact ⟨vy, qv_i (hQ _ (UM.tr u8 (UM.tr UM.u UM.u)) v8.u.u)⟩
      · intro k hk ih I4 u4 v4 s4
        have k1 : 11 * nI m + nI k = nI (11 * m + k) := by rw [N11, pk_mul, nI_add]
        refine w_X12_wed_95 hs _ _ _ _ (br_f (nI_ge (show k < 11 by omega) (by decide)) ?_)
        rw [k1, nI_clamp (show 11 * m + k < 2 ^ 31 by omega), nI_clamp (show k < 2 ^ 31 by omega), s4 k (by omega), nI_1 k]
        refine ⟨vp_in_nI (by omega) (by decide), vp_in_nI (by omega) (by decide), ih _ (UM.tr u4 UM.u) ?_ (fun j hj => by rw [uI_ne (by decide)]; exact s4 j hj)⟩
        rw [← fc_s]
        exact v4.u
    refine K 0 (by omega) _ (UM.tr um1 UM.u) ?_ (fun j hj => by rw [uI_ne (by decide)]; exact i133 j hj)
    rw [fc_0]
    exact v1.u
  · rw [cif_f cm]
    exact br_t rfl (no (fun e => cm e.2.2.1) I1 fr1)
end WE
