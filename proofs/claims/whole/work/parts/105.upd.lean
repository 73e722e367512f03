/-! updates: harvest, year, house -/
theorem nI_lt' {a b : Nat} (ha : a < 2 ^ 31) (hb : b < 2 ^ 31) : nI a < nI b ↔ a < b := by
  rw [fa_lt, nI_toInt ha, nI_toInt hb]
  omega
theorem upE {f g : Nat → Int32} {n k : Nat} {x : Int32} (h : ∀ i, i < n → f i = g i) : ∀ i, i < n → upd f k x i = upd g k x i := by
  intro i hi
  unfold upd
  split
  · rfl
  · exact h i hi
noncomputable def cip (p : Prop) (a b : Int32 × mI) : Int32 × mI := @ite _ p (Classical.propDecidable p) a b
theorem cip_t {p : Prop} {a b : Int32 × mI} (h : p) : cip p a b = a := @if_pos p (Classical.propDecidable p) h _ _ _
theorem cip_f {p : Prop} {a b : Int32 × mI} (h : ¬ p) : cip p a b = b := @if_neg p (Classical.propDecidable p) h _ _ _
theorem paA_cv {V V' : mI} (h89 : V' 89 = V 89) (h104 : V' 104 = V 104) (h105 : V' 105 = V 105) (h97 : ∀ k, k < cN V → V' 97 (V 105 (4 * k + 1)).toNatClampNeg = V 97 (V 105 (4 * k + 1)).toNatClampNeg) (v : Nat) (y : Int32) : paA V' v y = paA V v y := by
  have ec : cN V' = cN V := by unfold cN; rw [h104]
  have eh : ∀ k, hdY V' k v = hdY V k v := fun k => by
    unfold hdY wyA tkS atN
    rw [h89, h105]
  have e : ∀ k, k ≤ cN V → paF V' v y k = paF V v y k := by
    intro k
    induction k with
    | zero => intro _; rfl
    | succ k ih =>
      intro hk
      have ei : paI V' k = paI V k := by
        unfold paI
        rw [h105, h97 k (by omega)]
      rw [paF, paF, eh, ih (by omega), ei, h105]
  unfold paA
  rw [ec]
  exact e _ (Nat.le_refl _)
theorem Kc.cv {I I' V V' : mI} (k : Kc I V) (h1 : I' 57 = I 57) (h2 : I' 58 = I 58) (h89 : V' 89 = V 89) (h104 : V' 104 = V 104) (h105 : V' 105 = V 105) (h97 : ∀ k, k < cN V → V' 97 (V 105 (4 * k + 1)).toNatClampNeg = V 97 (V 105 (4 * k + 1)).toNatClampNeg) : Kc I' V' := by
  unfold Kc
  rw [h1, h2]
  intro v hv hn i hi
  rw [paA_cv h89 h104 h105 h97]
  exact k v hv hn i hi
section U1
variable {E : Envt} {d : Nat} {Q : Pst} {h : mS} {I I' V V' : mI} {L : mL}
theorem CQ.S' (q : CQ h I V) (hI : ∀ a, a ≠ 1 → a ≠ 37 → I' a = I a) (hV : ∀ a, a < 84 ∨ 88 < a → V' a = V a) (b : BkS I' 1 V') (w : WfS V') : CQ h I' V' :=
  ⟨q.s, ⟨b, q.b.H.cv (fun a ha => hV a (by omega)) (fun a ha => hI a (by omega) (by omega)), q.b.P.cv (fun a ha => hV a (by omega)) (fun a ha => hI a (by omega) (by omega)), q.b.O.cv (fun a ha => hV a (by omega)) (fun a ha => hI a (by omega) (by omega)), q.b.N.cv (fun a ha => hV a (by omega)) (fun a ha => hI a (by omega) (by omega)), q.b.M.cv (fun a ha => hV a (by omega)) (fun a ha => hI a (by omega) (by omega)), q.b.X.cv (fun a ha => hV a (by omega)) (fun a ha => hI a (by omega) (by omega))⟩,
   ⟨w, q.w.H.cv (fun a ha => hV a (by omega)), q.w.P.cv (fun a ha => hV a (by omega)), q.w.N.cv (fun a ha => hV a (by omega)), q.w.R.cv (fun a ha => hV a (by omega)), q.w.M.cv (fun a ha => hV a (by omega)), q.w.T.cv (fun a ha => hV a (by omega)), q.w.W.cv (fun a ha => hV a (by omega))⟩,
   q.k.cv (hI 57 (by omega) (by omega)) (hI 58 (by omega) (by omega)) (hV 89 (by omega)) (hV 104 (by omega)) (hV 105 (by omega)) (fun k _ => by rw [hV 97 (by omega)])⟩
theorem CQ.H' (q : CQ h I V) (hI : ∀ a, a < 2 ∨ 6 < a → I' a = I a) (hV : ∀ a, a < 90 ∨ 94 < a → V' a = V a) (b : BkH I' 1 V') (w : WfH V') : CQ h I' V' :=
  ⟨q.s, ⟨q.b.S.cv (fun a ha => hV a (by omega)) (fun a ha => hI a (by omega)), b, q.b.P.cv (fun a ha => hV a (by omega)) (fun a ha => hI a (by omega)), q.b.O.cv (fun a ha => hV a (by omega)) (fun a ha => hI a (by omega)), q.b.N.cv (fun a ha => hV a (by omega)) (fun a ha => hI a (by omega)), q.b.M.cv (fun a ha => hV a (by omega)) (fun a ha => hI a (by omega)), q.b.X.cv (fun a ha => hV a (by omega)) (fun a ha => hI a (by omega))⟩,
   ⟨q.w.S.cv (fun a ha => hV a (by omega)), w, q.w.P.cv (fun a ha => hV a (by omega)), q.w.N.cv (fun a ha => hV a (by omega)), q.w.R.cv (fun a ha => hV a (by omega)), q.w.M.cv (fun a ha => hV a (by omega)), q.w.T.cv (fun a ha => hV a (by omega)), q.w.W.cv (fun a ha => hV a (by omega))⟩,
   q.k.cv (hI 57 (by omega)) (hI 58 (by omega)) (hV 89 (by omega)) (hV 104 (by omega)) (hV 105 (by omega)) (fun k _ => by rw [hV 97 (by omega)])⟩
noncomputable def harN (V : mI) (p x : Int32) : Int32 × mI := cip (inN p (cH V) ∧ (¬ x < 1 ∧ ¬ 100000 < x)) (V 93 p.toNatClampNeg + x, uI V 93 p.toNatClampNeg (V 93 p.toNatClampNeg + x)) (-1, V)
theorem c_harvest (q : CQ h I V) {p x : Int32} (hQ : ∀ I', UC I I' → CQ h I' (harN V p x).2 → Q (some (.int (harN V p x).1)) h I' L) : (CT E mX11_harvest (d + 1) 0 0 [.ref (eB E + 0), .int p, .int x] h I L Q) := by
  have n8 := q.w.H.n8
  unfold harN at hQ
  have no : (¬ (inN p (cH V) ∧ (¬ x < 1 ∧ ¬ 100000 < x))) → Q (some (.int (-1))) h I L := fun hn => by
    rw [cip_f hn] at hQ
    exact hQ I UC.rf q
  refine w_X11_harvest q.s _ _ (br_c (fun c1 => br_c (fun c2 => ?_) (fun c2 => no fun e => c2 e.2)) (fun c1 => no fun e => c1 ((cH_r q).mpr e.1)))
  have i1 := (cH_r q).mp c1
  rw [cip_t ⟨i1, c2⟩] at hQ
  dsimp only at hQ
  obtain ⟨p, hp, rfl⟩ := i1
  rw [nI_clamp (by omega)] at hQ ⊢
  rw [bH_coin q.b p (by omega)]
  refine ⟨vp_in_nI (by omega) (by decide), hQ _ UC.u ?_⟩
  refine q.H' (fun a ha => uI_ne (by omega)) (fun a ha => uI_ne (by omega)) ⟨?_, ?_, ?_, ?_, ?_⟩ (q.w.H.cv (fun a ha => uI_ne (by omega)))
  · simp (disch := decide) only [uI_ne, uI_at]; exact bH_n q.b
  · simp (disch := decide) only [uI_ne, uI_at]; exact bH_clan q.b
  · simp (disch := decide) only [uI_ne, uI_at]; exact bH_vil q.b
  · simp (disch := decide) only [uI_ne, uI_at]; exact upE (bH_coin q.b)
  · simp (disch := decide) only [uI_ne, uI_at]; exact bH_feud q.b
theorem m_harvest (hs : SL h) (w : Wf V) (hV : MV I V) {p x : Int32} (hQ : ∀ I', UM I I' → MV I' (harN V p x).2 → Q (some (.int (harN V p x).1)) h I' L) : (CT E mX12_harvest (d + 2) 0 0 [.ref (eB E + 83), .int p, .int x] h I L Q) := by
  have n8 := w.H.n8
  unfold harN at hQ
  have no : (¬ (inN p (cH V) ∧ (¬ x < 1 ∧ ¬ 100000 < x))) → Q (some (.int (-1))) h (uI I 83 0 0) L := fun hn => by
    rw [cip_f hn] at hQ
    exact hQ _ UM.u hV.o
  refine w_X12_harvest hs _ _ (br_c (fun c1 => br_c (fun c2 => ?_) (fun c2 => no fun e => c2 e.2)) (fun c1 => no fun e => c1 ((mH_r w hV).mpr e.1)))
  have i1 := (mH_r w hV).mp c1
  rw [cip_t ⟨i1, c2⟩] at hQ
  dsimp only at hQ
  obtain ⟨p, hp, rfl⟩ := i1
  rw [nI_clamp (by omega)] at hQ ⊢
  rw [hV 93 (by decide) (by decide)]
  exact ⟨vp_in_nI (by omega) (by decide), hQ _ (UM.tr UM.u UM.u) hV.o.u⟩
noncomputable def yeaN (V : mI) : Int32 × mI := cip (cY V < 300) (V 88 0 + 1, uI V 88 0 (V 88 0 + 1)) (-1, V)
theorem c_year (q : CQ h I V) (hQ : ∀ I', UC I I' → CQ h I' (yeaN V).2 → Q (some (.int (yeaN V).1)) h I' L) : (CT E mX11_year d 0 0 [.ref (eB E + 0)] h I L Q) := by
  have y3 := q.w.S.y3
  have ey := q.w.S.y
  unfold yeaN at hQ
  refine w_X11_year q.s ?_
  rw [bS_y q.b, show (300 : Int32) = nI 300 from rfl, ey, nI_lt' (by omega) (by decide), ← ey]
  refine br_c (fun c => ?_) (fun c => ?_)
  · rw [cip_t c] at hQ
    dsimp only at hQ
    refine hQ _ UC.u (q.S' (fun a h1 h2 => uI_ne h1) (fun a ha => uI_ne (by omega)) ⟨?_, ?_, ?_, ?_, ?_⟩ ?_)
    · rw [uI_eq, uI_eq]
    · rw [uI_nj (by decide), uI_ne (by decide)]; exact bS_t q.b
    · rw [uI_nj (by decide), uI_ne (by decide)]; exact bS_f q.b
    · rw [uI_nj (by decide), uI_ne (by decide)]; exact bS_p q.b
    · have ec : cT (uI V 88 0 (V 88 0 + 1)) = cT V := by unfold cT; rw [uI_ne (by decide)]
      rw [ec, uI_ne (by decide), uI_ne (by decide)]; exact bS_tape q.b
    · have ec : cY (uI V 88 0 (V 88 0 + 1)) = cY V + 1 := by
        have : uI V 88 0 (V 88 0 + 1) 88 0 = nI (cY V + 1) := by rw [uI_eq, ey, nI_1]
        unfold cY at this ⊢
        rw [this, nI_clamp (by unfold cY at c; omega)]
      have ec2 : cT (uI V 88 0 (V 88 0 + 1)) = cT V := by unfold cT; rw [uI_ne (by decide)]
      refine ⟨?_, by omega, ?_, by rw [ec2]; exact q.w.S.t5, by rw [uI_ne (by decide)]; exact q.w.S.tb⟩
      · rw [ec, uI_eq, ey, nI_1]
      · rw [ec2, uI_ne (by decide)]; exact q.w.S.t
  · rw [cip_f c] at hQ
    exact hQ I UC.rf q
theorem m_year (hs : SL h) (w : Wf V) (hV : MV I V) (hQ : ∀ I', UM I I' → MV I' (yeaN V).2 → Q (some (.int (yeaN V).1)) h I' L) : (CT E mX12_year d 0 0 [.ref (eB E + 83)] h I L Q) := by
  have y3 := w.S.y3
  have ey := w.S.y
  unfold yeaN at hQ
  refine w_X12_year hs ?_
  rw [hV 88 (by decide) (by decide), show (300 : Int32) = nI 300 from rfl, ey, nI_eq (by omega) (by decide), ← ey]
  refine br_c (fun c => ?_) (fun c => ?_)
  · rw [cip_f (by omega)] at hQ
    exact hQ _ UM.u hV.o
  · rw [cip_t (by omega)] at hQ
    dsimp only at hQ
    exact hQ _ (UM.tr UM.u UM.u) hV.o.u
noncomputable def houN (V : mI) (c v x : Int32) : Int32 × mI := cip (cH V < 8 ∧ (¬ c < 0 ∧ ¬ 5 < c) ∧ (¬ v < 0 ∧ ¬ 4 < v) ∧ (¬ x < 0 ∧ ¬ 100000 < x)) (V 90 0, uI (uI (uI (uI (uI V 90 0 (V 90 0 + 1)) 91 (cH V) c) 92 (cH V) v) 93 (cH V) x) 94 (cH V) 0) (-1, V)
theorem c_house (q : CQ h I V) {c v x : Int32} (hQ : ∀ I', UC I I' → CQ h I' (houN V c v x).2 → Q (some (.int (houN V c v x).1)) h I' L) : (CT E mX11_house (d + 2) 0 0 [.ref (eB E + 0), .int c, .int v, .int x] h I L Q) := by
  have n8 := q.w.H.n8
  have en := q.w.H.n
  unfold houN at hQ
  have no : (¬ (cH V < 8 ∧ (¬ c < 0 ∧ ¬ 5 < c) ∧ (¬ v < 0 ∧ ¬ 4 < v) ∧ (¬ x < 0 ∧ ¬ 100000 < x))) → Q (some (.int (-1))) h I L := fun hn => by
    rw [cip_f hn] at hQ
    exact hQ I UC.rf q
  refine w_X11_house q.s _ _ _ (br_c (fun c1 => br_c (fun c2 => br_c (fun c3 => ?_) (fun c3 => no fun e => c3 e.2.2.2)) (fun c2 => no fun e => c2 e.2.2.1)) (fun c1 => no fun e => c1 e.2.1))
  refine w_X1_add q.s _ _ _ ?_
  rw [bH_n q.b, show (8 : Int32) = nI 8 from rfl, en, nI_lt' (by omega) (by decide)]
  refine br_c (fun c0 => ⟨vp_in_nI (by omega) (by decide), qi_i ?_⟩) (fun c0 => qi_i (no fun e => c0 e.1))
  rw [cip_t ⟨c0, c1, c2, c3⟩, en] at hQ
  dsimp only at hQ
  rw [nI_clamp (by omega), nI_1, show (1 : Int32) = nI 1 from rfl, ← nI_add, show nI (cH V) + nI 1 - nI 1 = nI (cH V) from by simp]
  refine hQ _ (UC.tr (UC.tr (UC.tr (UC.tr UC.u UC.u) UC.u) UC.u) UC.u) (q.H' (fun a ha => ?_) (fun a ha => ?_) ⟨?_, ?_, ?_, ?_, ?_⟩ ?_)
  · rw [uI_ne (by omega), uI_ne (by omega), uI_ne (by omega), uI_ne (by omega), uI_ne (by omega)]
  · rw [uI_ne (by omega), uI_ne (by omega), uI_ne (by omega), uI_ne (by omega), uI_ne (by omega)]
  · simp (disch := decide) only [uI_ne, uI_at]; rfl
  · simp (disch := decide) only [uI_ne, uI_at]; exact upE (bH_clan q.b)
  · simp (disch := decide) only [uI_ne, uI_at]; exact upE (bH_vil q.b)
  · simp (disch := decide) only [uI_ne, uI_at]; exact upE (bH_coin q.b)
  · simp (disch := decide) only [uI_ne, uI_at]; exact upE (bH_feud q.b)
  · obtain ⟨W, hW⟩ : ∃ W, W = uI (uI (uI (uI (uI V 90 0 (nI (cH V) + nI 1)) 91 (cH V) c) 92 (cH V) v) 93 (cH V) x) 94 (cH V) 0 := ⟨_, rfl⟩
    have w90 : W 90 0 = nI (cH V + 1) := by
      rw [hW]; simp (disch := decide) only [uI_ne, uI_eq]; rw [nI_add]
    have w92 : W 92 = upd (V 92) (cH V) v := by rw [hW]; simp (disch := decide) only [uI_ne, uI_at]
    have w94 : W 94 = upd (V 94) (cH V) 0 := by rw [hW]; simp (disch := decide) only [uI_ne, uI_at]
    have ec : cH W = cH V + 1 := by
      have : (W 90 0).toNatClampNeg = cH V + 1 := by rw [w90, nI_clamp (by omega)]
      exact this
    have fd : ∀ i j, fdB W i j = if i = cH V then false else fdB V i j := fun i j => by
      unfold fdB
      rw [w94]
      unfold upd
      by_cases e : i = cH V
      · rw [if_pos e, if_pos e, b_0]
      · rw [if_neg e, if_neg e]
    have fn : ∀ i, i < 8 → fdB V i (cH V) = false := fun i hi => by
      cases cc : fdB V i (cH V) with
      | false => rfl
      | true => have := (q.w.H.fb i _ hi cc).2; omega
    have goal : WfH W := by
      refine ⟨by rw [ec]; exact w90, by omega, fun i hi => ?_, fun i j hi hj => ?_, fun i hi => ?_, fun i j hi hh => ?_⟩
      · rw [w92]
        unfold upd
        split
        · exact r_5.mp c2
        · exact q.w.H.vil i hi
      · rw [fd, fd]
        by_cases e1 : i = cH V
        · rw [if_pos e1]
          by_cases e2 : j = cH V
          · rw [if_pos e2]
          · rw [if_neg e2, e1, fn j hj]
        · rw [if_neg e1]
          by_cases e2 : j = cH V
          · rw [if_pos e2, e2, fn i hi]
          · rw [if_neg e2]; exact q.w.H.fs i j hi hj
      · rw [fd]
        split
        · rfl
        · exact q.w.H.fd i hi
      · rw [fd] at hh
        by_cases e1 : i = cH V
        · rw [if_pos e1] at hh; exact absurd hh (by decide)
        · rw [if_neg e1] at hh
          have := q.w.H.fb i j hi hh
          omega
    rw [hW] at goal
    exact goal
theorem m_house (hs : SL h) (w : Wf V) (hV : MV I V) {c v x : Int32} (hQ : ∀ I', UM I I' → MV I' (houN V c v x).2 → Q (some (.int (houN V c v x).1)) h I' L) : (CT E mX12_house (d + 2) 0 0 [.ref (eB E + 83), .int c, .int v, .int x] h I L Q) := by
  have n8 := w.H.n8
  have en := w.H.n
  unfold houN at hQ
  have no : (¬ (cH V < 8 ∧ (¬ c < 0 ∧ ¬ 5 < c) ∧ (¬ v < 0 ∧ ¬ 4 < v) ∧ (¬ x < 0 ∧ ¬ 100000 < x))) → Q (some (.int (-1))) h (uI I 83 0 0) L := fun hn => by
    rw [cip_f hn] at hQ
    exact hQ _ UM.u hV.o
  refine w_X12_house hs _ _ _ ?_
  rw [hV 90 (by decide) (by decide)]
  have e8 : V 90 0 = 8 ↔ cH V = 8 := by rw [show (8 : Int32) = nI 8 from rfl, en, nI_eq (by omega) (by decide)]
  refine br_c (fun c0 => no fun e => by have := e8.mp c0; omega) (fun c0 => br_c (fun c1 => br_c (fun c2 => br_c (fun c3 => ?_) (fun c3 => no fun e => c3 e.2.2.2)) (fun c2 => no fun e => c2 e.2.2.1)) (fun c1 => no fun e => c1 e.2.1))
  rw [cip_t ⟨by have : ¬ cH V = 8 := fun e => c0 (e8.mpr e); omega, c1, c2, c3⟩] at hQ
  dsimp only at hQ
  exact ⟨by rw [en]; exact vp_in_nI (by omega) (by decide), hQ _ (UM.tr (UM.tr (UM.tr (UM.tr (UM.tr UM.u UM.u) UM.u) UM.u) UM.u) UM.u) hV.o.u.u.u.u.u⟩
end U1
