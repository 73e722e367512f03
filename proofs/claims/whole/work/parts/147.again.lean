/-! image and again, both -/
section AGN
variable {E : Envt} {d : Nat} {Q : Pst} {h h' : mS} {I I' V V' : mI} {L : mL}
theorem paA_ix (w : Wf V) (e : EQx V V') (v : Nat) (y : Int32) : paA V' v y = paA V v y := by
  have n60 := w.N.n60
  have n20 := w.P.n20
  have q5 : ∀ i, i < 240 → V' 105 i = V 105 i := fun i hi => e 105 i hi
  have ec : cN V' = cN V := e.cN
  have eh : ∀ k, k < cN V → hdY V' k v = hdY V k v := fun k hk => by
    unfold hdY atN
    rw [e.wy, q5 _ (by omega), q5 _ (by omega)]
  have es : ∀ k, k ≤ cN V → paF V' v y k = paF V v y k := by
    intro k
    induction k with
    | zero => intro _; rfl
    | succ k ih =>
      intro hk
      obtain ⟨f, f1, f2⟩ := w.N.par k (by omega)
      have ei : paI V' k = paI V k := by
        unfold paI
        rw [q5 _ (by omega), q5 _ (by omega), f2, nI_clamp (by omega), e 97 f (show f < 20 by omega)]
      rw [paF, paF, eh k (by omega), ih (by omega), ei, q5 _ (by omega)]
  unfold paA
  rw [ec]
  exact es _ (Nat.le_refl _)
theorem cq_ix (q : CQ h I V) (e : EQx V V') : CQ h I V' := ⟨q.s, Bk.ix e q.w q.b, ix e q.w, fun v hv hn i hi => by rw [paA_ix q.w e]; exact q.k v hv hn i hi⟩
theorem IMk.ix {k : Nat} (m : IMk h I V k) (e : EQx (slV V (k + 1)) (slV V' (k + 1))) : IMk h I V' k := by
  rcases m with m | ⟨b, m1, m2, m3, m4, m5, m6⟩
  · exact Or.inl m
  · exact Or.inr ⟨b, m1, m2, m3, m4, Bk.ix e m6 m5, Jvm.Pilot.CMatchBookLaw_law_r3936_f22c6d.ix e m6⟩
theorem m_image (hs : SL h) (w : Wf V) (hV : MV I V) {x : Int32} (h0 : ¬ inN x 3 → ∀ I', UM I I' → MV I' V → Q (some (.int 0)) h I' L) (h1 : ∀ k I', k < 3 → x = nI k → UM I I' → MV I' (cpS V 0 (k + 1) 123) → Q (some (.int 1)) h (uI I' 146 k 1) L) : (CT E mX12_image (d + 3) 0 0 [.ref (eB E + 83), .int x] h I L Q) := by
  refine w_X12_image hs _ (br_c (fun c => ?_) (fun c => h0 (fun e => c (r_3.mpr e)) _ UM.u hV.o))
  obtain ⟨k, hk, rfl⟩ := r_3.mp c
  rw [nI_1]
  refine m_copy (f := 0) (t := k + 1) hs (by rw [sl_0]; exact w) (by decide) (by omega) (by omega) hV.o (fun I' u' v' => qv_i ⟨vp_in_nI (by omega) (by decide), ?_⟩)
  rw [nI_clamp (show k < 2 ^ 31 by omega)]
  exact h1 k I' hk rfl (UM.tr UM.u u') v'
theorem m_again (hs : SL h) (hV : MV I V) {x : Int32} (hw : ∀ k, k < 3 → ¬ I 146 k = 0 → Wf (slV V (k + 1))) (h0 : (¬ inN x 3 ∨ ∃ k, k < 3 ∧ x = nI k ∧ I 146 k = 0) → ∀ I', UM I I' → MV I' V → Q (some (.int 0)) h I' L) (h1 : ∀ k I', k < 3 → x = nI k → ¬ I 146 k = 0 → UM I I' → MV I' (cpS V (k + 1) 0 123) → Q (some (.int 1)) h I' L) : (CT E mX12_again (d + 3) 0 0 [.ref (eB E + 83), .int x] h I L Q) := by
  refine w_X12_again hs _ (br_c (fun c => ?_) (fun c => h0 (Or.inl fun e => c (r_3.mpr e)) _ UM.u hV.o))
  obtain ⟨k, hk, rfl⟩ := r_3.mp c
  rw [nI_clamp (show k < 2 ^ 31 by omega), nI_1]
  refine ⟨vp_in_nI (by omega) (by decide), br_c (fun c2 => h0 (Or.inr ⟨k, hk, rfl, c2⟩) _ UM.u hV.o) (fun c2 => ?_)⟩
  exact m_copy (f := k + 1) (t := 0) hs (hw k hk c2) (by omega) (by decide) (by omega) hV.o (fun I' u' v' => qv_i (h1 k I' hk rfl c2 (UM.tr UM.u u') v'))
/-- both take an image -/
theorem Rel.img (r : Rel h I V) {k b : Nat} {I1 I2 : mI} (hk : k < 3) (hs' : SL h') (u : UI h h' I I1 b) (hb : 147 ≤ b) (e46 : ∀ j, h'.2.1 46 j = if j = k then some b else h.2.1 46 j) (lo : LO h' b ksX0 rsX0) (bk : Bk h' I1 b V) (hap : ∀ t nl nt, LT h t nl nt → t + 7 < b ∨ b + 37 ≤ t) (hd : ∀ c, LO h c ksX0 rsX0 → h.2.1 46 k = some c ∨ c + 45 ≤ b ∨ b + 45 ≤ c) (hf : h.2.1 46 k = some b ∨ (h.2.1 46 k = none ∧ b = h.2.2)) (um : UM I1 I2) (v2 : MV I2 (cpS V 0 (k + 1) 123)) : Rel h' (uI I2 146 k 1) (cpS V 0 (k + 1) 123) := by
  obtain ⟨q, v, r51, ims⟩ := r
  have h147 := q.s.1
  have h147' := hs'.1
  have u1 := u.1
  have f1 : ∀ a, a < 147 → I1 a = I a := fun a ha => u.2.2.2 a (by omega) (by omega)
  have e0 : EQx V (cpS V 0 (k + 1) 123) := by
    have := cpS_o (V := V) (f := 0) (t := k + 1) (s := 0) (by omega)
    rw [sl_0, sl_0] at this
    exact this
  have ek : EQx V (slV (cpS V 0 (k + 1) 123) (k + 1)) := by
    have := cpS_t (V := V) (f := 0) (t := k + 1)
    rw [sl_0] at this
    exact this
  have q1 : CQ h' I1 V := ⟨hs', ui_Bk q.s u hap q.b (by omega) (by omega) (Or.inl rfl), q.w, q.k.cg (f1 57 (by omega)) (f1 58 (by omega))⟩
  have f2 : ∀ a, a ≠ 146 → (a < 83 ∨ 146 ≤ a) → uI I2 146 k 1 a = I1 a := fun a h1 h2 => by rw [uI_ne h1]; exact um a h2
  have q2 : CQ h' (uI I2 146 k 1) V := by
    have q3 := q1.um um
    exact ⟨q3.s, ⟨q3.b.S.cv (fun _ _ => rfl) (fun a ha => uI_ne (by omega)), q3.b.H.cv (fun _ _ => rfl) (fun a ha => uI_ne (by omega)), q3.b.P.cv (fun _ _ => rfl) (fun a ha => uI_ne (by omega)), q3.b.O.cv (fun _ _ => rfl) (fun a ha => uI_ne (by omega)), q3.b.N.cv (fun _ _ => rfl) (fun a ha => uI_ne (by omega)), q3.b.M.cv (fun _ _ => rfl) (fun a ha => uI_ne (by omega)), q3.b.X.cv (fun _ _ => rfl) (fun a ha => uI_ne (by omega))⟩, q3.w, q3.k.cg (uI_ne (by decide)) (uI_ne (by decide))⟩
  refine ⟨cq_ix q2 e0, fun a h1 h2 => by rw [uI_ne (by omega)]; exact v2 a h1 h2, ?_, fun j hj => ?_, fun i j c hi hj hne g1 g2 => ?_⟩
  · rw [f2 51 (by omega) (by omega), f1 51 (by omega)]; exact r51
  · by_cases e : j = k
    · subst e
      refine Or.inr ⟨b, by rw [e46, if_pos rfl], uI_eq, hb, lo, ?_, ix ek q.w⟩
      exact Bk.ix ek q.w (bk.fi hb lo.1 (fun a ha => f2 a (by omega) (by omega)))
    · have i146 : uI I2 146 k 1 146 j = I 146 j := by rw [uI_nj e, um 146 (by omega), f1 146 (by omega)]
      have ej := cpS_o (V := V) (f := 0) (t := k + 1) (s := j + 1) (by omega)
      rcases ims.1 j hj with ⟨m1, m2⟩ | ⟨c, m1, m2, m3, m4, m5, m6⟩
      · exact Or.inl ⟨by rw [e46, if_neg e]; exact m1, by rw [i146]; exact m2⟩
      · have ap : c + 45 ≤ b ∨ b + 45 ≤ c := by
          rcases hd c m4 with z | z
          · exact (ims.2 j k c hj hk e m1 z).elim
          · exact z
        have lo' := ui_LO u m4 ap (Or.inr m3)
        refine Or.inr ⟨c, by rw [e46, if_neg e]; exact m1, by rw [i146]; exact m2, m3, lo', ?_, ix ej m6⟩
        have b1 := ui_Bk q.s u hap m5 m4.1 ap (Or.inr m3)
        exact Bk.ix ej m6 (b1.fi m3 lo'.1 (fun a ha => f2 a (by omega) (by omega)))
  · rw [e46] at g1 g2
    by_cases ei : i = k
    · rw [if_pos ei] at g1
      rw [if_neg (by omega)] at g2
      have cb : b = c := Option.some.inj g1
      rcases hf with z | ⟨z1, z2⟩
      · exact ims.2 k j c hk hj (by omega) (by rw [z, cb]) g2
      · rcases ims.1 j hj with ⟨m1, -⟩ | ⟨c', m1, -, -, m4, -, -⟩
        · rw [m1] at g2; cases g2
        · have : c' = c := Option.some.inj (m1.symm.trans g2)
          have l1 : c' + 45 ≤ h.2.2 := m4.1
          omega
    · rw [if_neg ei] at g1
      by_cases ej : j = k
      · rw [if_pos ej] at g2
        have cb : b = c := Option.some.inj g2
        rcases hf with z | ⟨z1, z2⟩
        · exact ims.2 k i c hk hi (by omega) (by rw [z, cb]) g1
        · rcases ims.1 i hi with ⟨m1, -⟩ | ⟨c', m1, -, -, m4, -, -⟩
          · rw [m1] at g1; cases g1
          · have : c' = c := Option.some.inj (m1.symm.trans g1)
            have l1 : c' + 45 ≤ h.2.2 := m4.1
            omega
      · rw [if_neg ej] at g2
        exact ims.2 i j c hi hj hne g1 g2
theorem c_again (r : Rel h I V) {x : Int32} (h0 : (¬ inN x 3 ∨ ∃ k, k < 3 ∧ x = nI k ∧ I 146 k = 0) → Q (some (.int 0)) h I L) (h1 : ∀ k h' I', k < 3 → x = nI k → ¬ I 146 k = 0 → UH h h' → (∀ a, a = 0 ∨ (38 ≤ a ∧ a ≠ 57) → I' a = I a) → CQ h' I' (cpS V (k + 1) 0 123) → Q (some (.int 1)) h' I' L) : (CT E mX11_again (d + 4) 0 0 [.ref (eB E + 0), .int x] h I L Q) := by
  obtain ⟨q, v, r51, ims⟩ := r
  have hs := q.s
  refine w_X11_again hs _ (br_c (fun c => ?_) (fun c => h0 (Or.inl fun e => c (r_3.mpr e))))
  obtain ⟨k, hk, rfl⟩ := r_3.mp c
  rw [nI_clamp (show k < 2 ^ 31 by omega)]
  refine ⟨vp_in_nI (by omega) (by decide), fun en => ?_, fun b eb => ?_⟩
  · rcases ims.1 k hk with ⟨z1, z2⟩ | ⟨b', z1, -⟩
    · exact h0 (Or.inr ⟨k, hk, rfl, z2⟩)
    · rw [z1] at en; cases en
  · rcases ims.1 k hk with ⟨z1, -⟩ | ⟨b', z1, z2, z3, z4, z5, z6⟩
    · rw [z1] at eb; cases eb
    · have eb' : b' = b := Option.some.inj (z1.symm.trans eb)
      subst eb'
      refine c_tk0 hs (LO.st hs) z4 (Or.inl ⟨rfl, z3⟩) z5 z6 (fun h2 I2 hs2 g1 g2 g3 g4 bk => gv_i ⟨hs2, ?_⟩)
      refine c_forget hs2 (fun f hf => qv_i ?_)
      have e0 : EQx (slV V (k + 1)) (cpS V (k + 1) 0 123) := by
        have := cpS_t (V := V) (f := k + 1) (t := 0)
        rw [sl_0] at this
        exact this
      have w' := ix e0 z6
      have bk2 : Bk h2 (sA I2 57 f) 1 (slV V (k + 1)) := ⟨bk.S.cv (fun _ _ => rfl) (fun a ha => sA_ne (by omega)), bk.H.cv (fun _ _ => rfl) (fun a ha => sA_ne (by omega)), bk.P.cv (fun _ _ => rfl) (fun a ha => sA_ne (by omega)), bk.O.cv (fun _ _ => rfl) (fun a ha => sA_ne (by omega)), bk.N.cv (fun _ _ => rfl) (fun a ha => sA_ne (by omega)), bk.M.cv (fun _ _ => rfl) (fun a ha => sA_ne (by omega)), bk.X.cv (fun _ _ => rfl) (fun a ha => sA_ne (by omega))⟩
      refine h1 k h2 _ hk rfl (by rw [z2]; decide) ⟨by rw [g2]; exact Nat.le_refl _, fun a _ => by rw [g1], fun a _ n1 n2 n3 => g3 a n1 n2 n3⟩ (fun a ha => by rw [sA_ne (by omega)]; exact g4 a (by omega)) ⟨hs2, Bk.ix e0 z6 bk2, w', fun v hv hn => ?_⟩
      rw [sA_at] at hn
      exact absurd (hf v hv) hn
theorem Rel.agn (r : Rel h I V) {k : Nat} {I1 I2 : mI} (hk : k < 3) (u : UH h h') (f1 : ∀ a, a = 0 ∨ (38 ≤ a ∧ a ≠ 57) → I1 a = I a) (q1 : CQ h' I1 (cpS V (k + 1) 0 123)) (um : UM I1 I2) (v2 : MV I2 (cpS V (k + 1) 0 123)) : Rel h' I2 (cpS V (k + 1) 0 123) := by
  obtain ⟨q, v, r51, ims⟩ := r
  have h147 := q.s.1
  have e46 : ∀ k, h'.2.1 46 k = h.2.1 46 k := fun k => by rw [u.2.2 46 (by omega) (by omega) (by omega) (by omega)]
  refine ⟨q1.um um, v2, by rw [um 51 (by omega), f1 51 (by omega)]; exact r51, fun j hj => ?_, fun i j c hi hj hne g1 g2 => ims.2 i j c hi hj hne (by rw [← e46]; exact g1) (by rw [← e46]; exact g2)⟩
  have ej := cpS_o (V := V) (f := k + 1) (t := 0) (s := j + 1) (by omega)
  have m := (ims.1 j hj).fi (I' := I2) (V' := V) q.s (fun a ha => by rw [um a (by omega), f1 a (by omega)]) rfl
  exact (m.uh q.s u (e46 j)).ix ej
end AGN
