/-! takeFrom: the whole book -/
section TKB
variable {E : Envt} {d : Nat} {Q : Pst} {h : mS} {I V : mI} {L : mL}
theorem LO.cg {h h' : mS} {p : Nat} {ks : List (Nat × Nat)} {rs : List (Nat × Nat × Nat)} (m : LO h p ks rs) (e1 : h'.1 = h.1) (e2 : h'.2.2 = h.2.2) (hr : ∀ q ∈ rs, h'.2.1 (p + q.1) = h.2.1 (p + q.1)) : LO h' p ks rs := ⟨by rw [e2]; exact m.1, by rw [e1]; exact m.2.1, fun q hq => by rw [hr q hq]; exact m.2.2 q hq⟩
theorem LT.cg {h h' : mS} {t nl nt : Nat} (w : LT h t nl nt) (e1 : h'.1 = h.1) (e2 : h'.2.2 = h.2.2) (hr : h'.2.1 t = h.2.1 t) : LT h' t nl nt := by
  obtain ⟨a, b, r, c⟩ := w
  exact ⟨by rw [e2]; exact a, by rw [e1]; exact b, by rw [hr]; exact r, c⟩
/-- a text lies apart from a book -/
theorem LT.ap {t nl nt p : Nat} (w : LT h t nl nt) (lp : LO h p ksX0 rsX0) : t + 7 < p ∨ p + 37 ≤ t := by
  have hk : ∀ j, j < 37 → ∀ q, ksX0[j]? = some q → q.1 ≠ 10 := by decide
  have hlen : ksX0.length = 45 := rfl
  apply Classical.byContradiction
  intro hn
  by_cases c : p ≤ t
  · have e : t = p + (t - p) := by omega
    have hj : t - p < 37 := by omega
    obtain ⟨q, hq⟩ : ∃ q, ksX0[t - p]? = some q := ⟨_, List.getElem?_eq_getElem (by rw [hlen]; omega)⟩
    have h1 := lp.kd (t - p) hq
    rw [← e, w.k0] at h1
    exact hk _ hj q hq (by rw [← h1])
  · have h0 := lp.kd 0 rfl
    have hp : p = t + 1 ∨ p = t + 2 ∨ p = t + 3 ∨ p = t + 4 ∨ p = t + 5 ∨ p = t + 6 ∨ p = t + 7 := by omega
    rcases hp with rfl | rfl | rfl | rfl | rfl | rfl | rfl
    · have := (w.k1).symm.trans h0; simp at this
    · have := (w.k2).symm.trans h0; simp at this
    · have := (w.k3).symm.trans h0; simp at this
    · have := (w.k4).symm.trans h0; simp at this
    · have := (w.k5).symm.trans h0; simp at this
    · have := (w.k6).symm.trans h0; simp at this
    · have := (w.k7).symm.trans h0; simp at this
theorem fits_b {x : Int32} (h : -128 ≤ x.toInt ∧ x.toInt ≤ 127) : fits .byte (.int x) = true := by
  have e1 : ((-128) : Int32).toInt = -128 := by decide
  have e2 : (127 : Int32).toInt = 127 := by decide
  have h1 : (-128 : Int32) ≤ x := by rw [fa_le, e1]; exact h.1
  have h2 : x ≤ 127 := by rw [fa_le, e2]; exact h.2
  simp [fits, h1, h2]
theorem c_tk0 {p s : Nat} (hs : SL h) (lp : LO h p ksX0 rsX0) (ls : LO h s ksX0 rsX0) (hps : (p = 1 ∧ 147 ≤ s) ∨ (s = 1 ∧ 147 ≤ p)) (b : Bk h I s V) (w : Wf V) (hQ : ∀ h' I', SL h' → h'.1 = h.1 → h'.2.2 = h.2.2 → (∀ a, a ≠ p + 33 → a ≠ p + 34 → a ≠ p + 35 → h'.2.1 a = h.2.1 a) → (∀ a, a < p ∨ p + 37 ≤ a → I' a = I a) → Bk h' I' p V → Q none h' I' L) : CT E mX0_takeFrom (d + 3) 0 0 [.ref (eB E + p), .ref (eB E + s)] h I L Q := by
  have t5 := w.S.t5
  have hr : ∀ q ∈ rsX0, q.1 = 0 ∨ q.1 = 1 ∨ q.1 = 6 ∨ q.1 = 16 ∨ q.1 = 23 ∨ q.1 = 37 := by decide
  have n30 := w.M.n30
  refine w_X0_takeFrom hs lp ls ?_
  refine c_tk1 hs (lp.sub 1 (by decide) rfl (by decide)) (ls.sub 1 (by decide) rfl (by decide)) (by omega) (fun I1 k1 => qv_i ?_)
  have g1 : ∀ a, a ≠ p → (a < p + 1 ∨ p + 6 ≤ a) → I1 a = I a := fun a h1 h2 => by rw [k1.1 a (by omega), uI_ne h1]
  refine c_tk7 hs (lp.sub 6 (by decide) rfl (by decide)) (ls.sub 6 (by decide) rfl (by decide)) (by omega) (fun i hi => ?_) (fun i hi => ?_) (fun i hi => ?_) (fun I2 k2 => qv_i ?_)
  · rw [g1 _ (by omega) (by omega)]; exact b.P.alz i hi
  · rw [g1 _ (by omega) (by omega)]
    have e := b.P.wid i hi
    have e2 : I (s + 6 + 8) i = V 102 i := e
    rw [e2]; exact w.P.wid i hi
  · rw [g1 _ (by omega) (by omega)]; exact b.P.waz i hi
  have g2 : ∀ a, a ≠ p → (a < p + 1 ∨ p + 16 ≤ a) → I2 a = I a := fun a h1 h2 => by rw [k2.1 a (by omega)]; exact g1 a h1 (by omega)
  refine c_tk5 hs (lp.sub 16 (by decide) rfl (by decide)) (ls.sub 16 (by decide) rfl (by decide)) (by omega) (fun I3 k3 => qv_i ?_)
  have g3 : ∀ a, a ≠ p → (a < p + 1 ∨ p + 23 ≤ a) → I3 a = I a := fun a h1 h2 => by rw [k3.1 a (by omega)]; exact g2 a h1 (by omega)
  refine c_tk4 hs (lp.sub 23 (by decide) rfl (by decide)) (ls.sub 23 (by decide) rfl (by decide)) (by omega) (by omega) b.X.a b.X.b (fun h4 I5 hs4 e41 e42 e43 e44 e45 k4 => gv_i ⟨hs4, lp.cg e41 e42 (fun q hq => e43 _ (by have := hr q hq; omega) (by have := hr q hq; omega)), ls.cg e41 e42 (fun q hq => e43 _ (by have := hr q hq; omega) (by have := hr q hq; omega)), ?_⟩)
  have lp4 := lp.cg e41 e42 (fun q hq => e43 _ (by have := hr q hq; omega) (by have := hr q hq; omega))
  have ls4 := ls.cg e41 e42 (fun q hq => e43 _ (by have := hr q hq; omega) (by have := hr q hq; omega))
  have g4 : ∀ a, a ≠ p → (a < p + 1 ∨ p + 33 ≤ a) → I5 a = I a := fun a h1 h2 => by rw [k4.1 a (by omega)]; exact g3 a h1 (by omega)
  have tne : ∀ {t nl nt : Nat}, LT h t nl nt → t ≠ p + 33 ∧ t ≠ p + 34 ∧ t ≠ p + 35 := fun {t nl nt} lt => by have := lt.ap lp; omega
  have lt4 : ∀ {t nl nt : Nat}, LT h t nl nt → LT h4 t nl nt := fun lt => lt.cg e41 e42 (e43 _ (tne lt).1 (tne lt).2.1)
  refine c_texts hs4 (ls4.lt 35 rfl) (ls4.kd 35 rfl) (lp4.lt 35 rfl) (lp4.kd 35 rfl) (by decide) (by omega) (by omega) (fun i t hi e => ?_) (fun h5 hs5 u5 e5 => gv_i ⟨hs5, lp4.rf2 u5 (fun q hq => by have := hr q hq; omega), ls4.rf2 u5 (fun q hq => by have := hr q hq; omega), ?_⟩)
  · rw [e43 _ (by omega) (by omega)] at e
    obtain ⟨t', g1', nl, g2'⟩ := b.X.tx i hi
    rw [g1'] at e
    cases e
    exact ⟨_, _, lt4 g2'.LT⟩
  have i7 : I5 s 7 = nI (cT V) := by rw [g4 s (by omega) (by omega), b.S.t]; exact w.S.t
  have i8 : I5 s 8 = V 86 0 := by rw [g4 s (by omega) (by omega)]; exact b.S.f
  have i9 : I5 s 9 = V 87 0 := by rw [g4 s (by omega) (by omega)]; exact b.S.p
  have i36 : I5 (s + 36) = I (s + 36) := g4 _ (by omega) (by omega)
  rw [i7, nI_clamp (by omega)]
  refine ⟨nI_pos (by omega), by omega, by omega, fun i hi => ?_, ?_⟩
  · rw [i36, Nat.zero_add, b.S.tape i hi]; exact fits_b (w.S.tb i (by omega))
  have v7 : cpI I5 (s + 36) (p + 36) 0 0 (cT V) s 7 = nI (cT V) := by rw [cpI_ne (by omega)]; exact i7
  rw [v7, uI_ne (show s ≠ p by omega), uI_ne (show s ≠ p by omega), uI_ne (show s ≠ p by omega), cpI_ne (show s ≠ p + 36 by omega), i8, i9]
  have ff : ∀ a, a ≠ p → a ≠ p + 36 → uI (uI (uI (cpI I5 (s + 36) (p + 36) 0 0 (cT V)) p 7 (nI (cT V))) p 8 (V 86 0)) p 9 (V 87 0) a = I5 a := fun a h1 h2 => by rw [uI_ne h1, uI_ne h1, uI_ne h1, cpI_ne h2]
  have f36 : ∀ i, i < cT V → uI (uI (uI (cpI I5 (s + 36) (p + 36) 0 0 (cT V)) p 7 (nI (cT V))) p 8 (V 86 0)) p 9 (V 87 0) (p + 36) i = V 84 i := fun i hi => by
    rw [uI_ne (by omega), uI_ne (by omega), uI_ne (by omega)]
    unfold cpI
    rw [if_pos rfl, pk_cpy_in (by omega) (by omega), i36, show 0 + (i - 0) = i by omega]
    exact b.S.tape i hi
  have f0 : uI (uI (uI (cpI I5 (s + 36) (p + 36) 0 0 (cT V)) p 7 (nI (cT V))) p 8 (V 86 0)) p 9 (V 87 0) p 0 = V 88 0 := by
    rw [uI_nj (by decide), uI_nj (by decide), uI_nj (by decide), cpI_ne (by omega), k4.1 p (by omega), k3.1 p (by omega), k2.1 p (by omega), k1.1 p (by omega), uI_eq]
    exact b.S.y
  have f7 : uI (uI (uI (cpI I5 (s + 36) (p + 36) 0 0 (cT V)) p 7 (nI (cT V))) p 8 (V 86 0)) p 9 (V 87 0) p 7 = V 85 0 := by rw [uI_nj (by decide), uI_nj (by decide), uI_eq]; exact w.S.t.symm
  have f8 : uI (uI (uI (cpI I5 (s + 36) (p + 36) 0 0 (cT V)) p 7 (nI (cT V))) p 8 (V 86 0)) p 9 (V 87 0) p 8 = V 86 0 := by rw [uI_nj (by decide), uI_eq]
  have f9 : uI (uI (uI (cpI I5 (s + 36) (p + 36) 0 0 (cT V)) p 7 (nI (cT V))) p 8 (V 86 0)) p 9 (V 87 0) p 9 = V 87 0 := uI_eq
  generalize uI (uI (uI (cpI I5 (s + 36) (p + 36) 0 0 (cT V)) p 7 (nI (cT V))) p 8 (V 86 0)) p 9 (V 87 0) = J at ff f36 f0 f7 f8 f9 ⊢
  -- the rows
  have c1 : J (p + 1) 0 = I (s + 1) 0 := by
    rw [ff _ (by omega) (by omega), k4.1 _ (by omega), k3.1 _ (by omega), k2.1 _ (by omega), k1.2.1, uI_ne (by omega)]
  have r1 : ∀ j q, 1 ≤ j → j < 5 → ksX1[j]? = some q → ∀ i, i < q.2 → J (p + 1 + j) i = I (s + 1 + j) i := fun j q h1 h2 hq i hi => by
    rw [ff _ (by omega) (by omega), k4.1 _ (by omega), k3.1 _ (by omega), k2.1 _ (by omega), k1.2.2 j q h1 h2 hq i hi, uI_ne (by omega)]
  have c2 : J (p + 6) 0 = I (s + 6) 0 := by
    rw [ff _ (by omega) (by omega), k4.1 _ (by omega), k3.1 _ (by omega), k2.2.1, g1 _ (by omega) (by omega)]
  have r2 : ∀ j q, 1 ≤ j → j < 10 → ksX7[j]? = some q → ∀ i, i < q.2 → J (p + 6 + j) i = I (s + 6 + j) i := fun j q h1 h2 hq i hi => by
    rw [ff _ (by omega) (by omega), k4.1 _ (by omega), k3.1 _ (by omega), k2.2.2 j q h1 h2 hq i hi, g1 _ (by omega) (by omega)]
  have c3 : J (p + 16) 0 = I (s + 16) 0 := by
    rw [ff _ (by omega) (by omega), k4.1 _ (by omega), k3.2.1, g2 _ (by omega) (by omega)]
  have r3 : ∀ j q, 1 ≤ j → j < 7 → ksX5[j]? = some q → ∀ i, i < q.2 → J (p + 16 + j) i = I (s + 16 + j) i := fun j q h1 h2 hq i hi => by
    rw [ff _ (by omega) (by omega), k4.1 _ (by omega), k3.2.2 j q h1 h2 hq i hi, g2 _ (by omega) (by omega)]
  have c4 : J (p + 23) 0 = I (s + 23) 0 := by
    rw [ff _ (by omega) (by omega), k4.2.1, g3 _ (by omega) (by omega)]
  have r4 : ∀ j q, 1 ≤ j → j < 10 → ksX4[j]? = some q → ∀ i, i < q.2 → J (p + 23 + j) i = I (s + 23 + j) i := fun j q h1 h2 hq i hi => by
    rw [ff _ (by omega) (by omega), k4.2.2 j q h1 h2 hq i hi, g3 _ (by omega) (by omega)]
  have fr : ∀ a, a < p ∨ p + 37 ≤ a → J a = I a := fun a ha => by rw [ff a (by omega) (by omega)]; exact g4 a (by omega) (by omega)
  have hh1 : h5.1 = h.1 := u5.1.trans e41
  have hh2 : h5.2.2 = h.2.2 := u5.2.1.trans e42
  have hh3 : ∀ a, a ≠ p + 33 → a ≠ p + 34 → a ≠ p + 35 → h5.2.1 a = h.2.1 a := fun a h1 h2 h3 => (u5.2.2 a h3).trans (e43 a h1 h2)
  have lt5 : ∀ {t nl nt : Nat}, LT h t nl nt → LT h5 t nl nt := fun lt => lt.cg hh1 hh2 (hh3 _ (tne lt).1 (tne lt).2.1 (tne lt).2.2)
  have tr5 : ∀ {t x : Nat}, TR h I V t x → TR h5 J V t x := fun {t x} ⟨nl, w⟩ => by
    have ap := w.LT.ap lp
    have w2 : TRn h J V t x nl := w.cg fun a h1 h2 => fr a (by omega)
    exact ⟨nl, w2.l16, lt5 w2.LT, w2.lo, w2.n, w2.v, w2.ft, w2.ac, w2.nu, w2.su, w2.si, w2.bo, w2.no⟩
  have p33 : ∀ i, i < 30 → h5.2.1 (p + 33) i = h.2.1 (s + 33) i := fun i hi => by rw [u5.2.2 _ (by omega)]; exact e44 i hi
  have p34 : ∀ i, i < 30 → h5.2.1 (p + 34) i = h.2.1 (s + 34) i := fun i hi => by rw [u5.2.2 _ (by omega)]; exact e45 i hi
  have p35 : ∀ i, i < 7 → h5.2.1 (p + 35) i = h.2.1 (s + 35) i := fun i hi => by rw [e5 i hi, e43 _ (by omega) (by omega)]
  refine hQ h5 J hs5 hh1 hh2 hh3 fr ⟨⟨f0, f7, f8, f9, f36⟩, ⟨c1.trans b.H.n, fun i hi => (r1 1 _ (by decide) (by decide) rfl i hi).trans (b.H.clan i hi), fun i hi => (r1 2 _ (by decide) (by decide) rfl i hi).trans (b.H.vil i hi), fun i hi => (r1 3 _ (by decide) (by decide) rfl i hi).trans (b.H.coin i hi), fun i hi => (r1 4 _ (by decide) (by decide) rfl i hi).trans (b.H.feud i hi)⟩, ⟨c2.trans b.P.n, fun i hi => (r2 1 _ (by decide) (by decide) rfl i hi).trans (b.P.hou i hi), fun i hi => (r2 2 _ (by decide) (by decide) rfl i hi).trans (b.P.kin i hi), fun i hi => (r2 3 _ (by decide) (by decide) rfl i hi).trans (b.P.sta i hi), fun i hi => (r2 4 _ (by decide) (by decide) rfl i hi).trans (b.P.bor i hi), fun i hi => (r2 5 _ (by decide) (by decide) rfl i hi).trans (b.P.spo i hi), fun i hi => ?_, fun i hi => (r2 8 _ (by decide) (by decide) rfl i hi).trans (b.P.wid i hi), fun i hi h97 => ?_, fun i hi => ?_, fun i hi => ?_⟩, ⟨fun i hi => ?_, trivial⟩, ⟨c3.trans b.N.n, fun i hi => (r3 1 _ (by decide) (by decide) rfl i hi).trans (b.N.chi i hi), fun i hi => (r3 2 _ (by decide) (by decide) rfl i hi).trans (b.N.par i hi), fun i hi => (r3 3 _ (by decide) (by decide) rfl i hi).trans (b.N.at i hi), fun i hi => (r3 4 _ (by decide) (by decide) rfl i hi).trans (b.N.in i hi), fun a c ha hc hne => (r3 5 _ (by decide) (by decide) rfl _ (show 5 * a + c < 25 by omega)).trans (b.N.ro a c ha hc hne), fun a ha => (r3 5 _ (by decide) (by decide) rfl _ (show 5 * a + a < 25 by omega)).trans (b.N.di a ha), fun a v ha hv => (r3 6 _ (by decide) (by decide) rfl _ (show 5 * a + v < 25 by omega)).trans (b.N.wy a v ha hv)⟩, ⟨c4.trans b.M.n, fun i hi => (r4 1 _ (by decide) (by decide) rfl i hi).trans (b.M.bri i hi), fun i hi => (r4 2 _ (by decide) (by decide) rfl i hi).trans (b.M.gro i hi), fun i hi => (r4 3 _ (by decide) (by decide) rfl i hi).trans (b.M.sta i hi), fun i hi => (r4 4 _ (by decide) (by decide) rfl i hi).trans (b.M.gif i hi), fun i hi => (r4 5 _ (by decide) (by decide) rfl i hi).trans (b.M.bac i hi), fun i hi => (r4 6 _ (by decide) (by decide) rfl i hi).trans (b.M.pai i hi), fun i hi => (r4 7 _ (by decide) (by decide) rfl i hi).trans (b.M.ask i hi), fun i hi => (r4 8 _ (by decide) (by decide) rfl i hi).trans (b.M.sin i hi), fun m j hm h2 hj h6 => (r4 9 _ (by decide) (by decide) rfl _ (show 11 * m + j < 330 by omega)).trans (b.M.fac m j hm h2 hj h6)⟩, ⟨fun x hx => ?_, fun m hm h2 => ?_, fun i t hi e => ?_, fun i t hi e => ?_⟩⟩
  · have n20 := w.P.n20
    exact (r2 7 _ (by decide) (by decide) rfl i (show i < 20 by omega)).trans (b.P.ali i hi)
  · have n20 := w.P.n20
    exact (r2 9 _ (by decide) (by decide) rfl i (show i < 20 by omega)).trans (b.P.was i hi h97)
  · have e := r2 7 _ (by decide) (by decide) rfl i hi
    have e2 : J (p + 13) i = I (s + 13) i := e
    rw [e2]; exact b.P.alz i hi
  · have e := r2 9 _ (by decide) (by decide) rfl i hi
    have e2 : J (p + 15) i = I (s + 15) i := e
    rw [e2]; exact b.P.waz i hi
  · have n20 := w.P.n20
    exact (r2 6 _ (by decide) (by decide) rfl i (show i < 20 by omega)).trans (b.O.op i hi)
  · obtain ⟨t, q1, q2⟩ := b.X.tx x hx
    exact ⟨t, by rw [p35 x hx]; exact q1, tr5 q2⟩
  · obtain ⟨t, u, q1, q2, q3, q4⟩ := b.X.wt m hm h2
    exact ⟨t, u, by rw [p33 m (by omega)]; exact q1, tr5 q2, by rw [p34 m (by omega)]; exact q3, tr5 q4⟩
  · rw [p33 i hi] at e
    obtain ⟨nl, nt, lt⟩ := b.X.a i t hi e
    exact ⟨nl, nt, lt5 lt⟩
  · rw [p34 i hi] at e
    obtain ⟨nl, nt, lt⟩ := b.X.b i t hi e
    exact ⟨nl, nt, lt5 lt⟩
end TKB
