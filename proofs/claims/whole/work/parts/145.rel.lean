/-! the two books and their images -/
theorem LO.st {h : mS} (hs : SL h) : LO h 1 ksX0 rsX0 := by
  have h1 : ∀ j, j < 45 → ksX0[j]? = some (layL.getD (1 + j) (0, 0)) := by decide +kernel
  have h2 : (rsX0.all fun q => layR.contains (1 + q.1, q.2.1, 1 + q.2.2)) = true := by decide +kernel
  have hlen : ksX0.length = 45 := rfl
  have h147 := hs.1
  refine ⟨by rw [hlen]; omega, fun j q hj => ?_, fun q hq => ?_⟩
  · have hl := (List.getElem?_eq_some_iff.mp hj).1
    rw [hlen] at hl
    rw [h1 j hl] at hj
    cases hj
    exact hs.2.1 (1 + j) (by omega)
  · have := List.all_eq_true.mp h2 q hq
    exact hs.2.2 (1 + q.1, q.2.1, 1 + q.2.2) (by simpa using this)
/-- image k -/
def IMk (h : mS) (I V : mI) (k : Nat) : Prop := (h.2.1 46 k = none ∧ I 146 k = 0) ∨ ∃ b, h.2.1 46 k = some b ∧ I 146 k = 1 ∧ 147 ≤ b ∧ LO h b ksX0 rsX0 ∧ Bk h I b (slV V (k + 1)) ∧ Wf (slV V (k + 1))
def IMs (h : mS) (I V : mI) : Prop := (∀ k, k < 3 → IMk h I V k) ∧ ∀ j k b, j < 3 → k < 3 → j ≠ k → h.2.1 46 j = some b → h.2.1 46 k = some b → False
def Rel (h : mS) (I V : mI) : Prop := CQ h I V ∧ MV I V ∧ I 51 0 = 0 ∧ IMs h I V
section REL
variable {E : Envt} {d : Nat} {Q : Pst} {h h' : mS} {I I' V V' : mI} {L : mL}
/-- an image's book reads only above, and the empty text -/
theorem TR.fb {t x : Nat} (w : TR h I V t x) (f : ∀ a, (38 ≤ a ∧ a ≤ 45) ∨ (147 ≤ a ∧ a < h.2.2) → I' a = I a) : TR h I' V t x := by
  obtain ⟨nl, w⟩ := w
  have lo := w.lo
  have l1 := w.LT.1
  exact ⟨nl, w.cg fun a h1 h2 => f a (by omega)⟩
theorem Bk.fi {b : Nat} (w : Bk h I b V) (hb : 147 ≤ b) (hb2 : b + 45 ≤ h.2.2) (f : ∀ a, (38 ≤ a ∧ a ≤ 45) ∨ (147 ≤ a ∧ a < h.2.2) → I' a = I a) : Bk h I' b V := by
  refine ⟨w.S.cv (fun _ _ => rfl) (fun a ha => f a (by omega)), w.H.cv (fun _ _ => rfl) (fun a ha => f a (by omega)), w.P.cv (fun _ _ => rfl) (fun a ha => f a (by omega)), w.O.cv (fun _ _ => rfl) (fun a ha => f a (by omega)), w.N.cv (fun _ _ => rfl) (fun a ha => f a (by omega)), w.M.cv (fun _ _ => rfl) (fun a ha => f a (by omega)), ⟨fun x hx => ?_, fun m hm h2 => ?_, w.X.a, w.X.b⟩⟩
  · obtain ⟨t, g1, g2⟩ := w.X.tx x hx
    exact ⟨t, g1, g2.fb f⟩
  · obtain ⟨t, u, g1, g2, g3, g4⟩ := w.X.wt m hm h2
    exact ⟨t, u, g1, g2.fb f, g3, g4.fb f⟩
theorem IMk.fi {k : Nat} (hs : SL h) (m : IMk h I V k) (f : ∀ a, (38 ≤ a ∧ a ≤ 45) ∨ (146 ≤ a ∧ a < h.2.2) → I' a = I a) (e : slV V' (k + 1) = slV V (k + 1)) : IMk h I' V' k := by
  have h147 := hs.1
  rcases m with ⟨m1, m2⟩ | ⟨b, m1, m2, m3, m4, m5, m6⟩
  · exact Or.inl ⟨m1, by rw [f 146 (by omega)]; exact m2⟩
  · exact Or.inr ⟨b, m1, by rw [f 146 (by omega)]; exact m2, m3, m4, by rw [e]; exact m5.fi m3 m4.1 (fun a ha => f a (by omega)), by rw [e]; exact m6⟩
/-- the shape grows below the images -/
theorem LO.uh {b : Nat} {ks : List (Nat × Nat)} {rs : List (Nat × Nat × Nat)} (m : LO h b ks rs) (hb : 147 ≤ b) (hl : ∀ q ∈ rs, q.1 < ks.length) (u : UH h h') : LO h' b ks rs := by
  obtain ⟨m1, m2, m3⟩ := m
  have u1 := u.1
  refine ⟨by omega, fun j q hj => ?_, fun q hq => ?_⟩
  · have := (List.getElem?_eq_some_iff.mp hj).1
    rw [u.2.1 _ (by omega)]; exact m2 j q hj
  · have := hl q hq
    rw [u.2.2 _ (by omega) (by omega) (by omega) (by omega)]; exact m3 q hq
theorem rsX0_l : ∀ q ∈ rsX0, q.1 < ksX0.length := by decide
theorem Bk.uh {b : Nat} (hs : SL h) (w : Bk h I b V) (lo : LO h b ksX0 rsX0) (hb : 147 ≤ b) (u : UH h h') : Bk h' I b V := by
  have hlen : ksX0.length = 45 := rfl
  have lo1 := lo.1
  rw [hlen] at lo1
  have r : ∀ j, j < 45 → h'.2.1 (b + j) = h.2.1 (b + j) := fun j hj => u.2.2 _ (by omega) (by omega) (by omega) (by omega)
  refine ⟨w.S, w.H, w.P, w.O, w.N, w.M, ⟨fun x hx => ?_, fun m hm h2 => ?_, fun i t hi e => ?_, fun i t hi e => ?_⟩⟩
  · obtain ⟨t, g1, g2⟩ := w.X.tx x hx
    exact ⟨t, by rw [r 35 (by omega)]; exact g1, g2.uh hs u⟩
  · obtain ⟨t, u', g1, g2, g3, g4⟩ := w.X.wt m hm h2
    exact ⟨t, u', by rw [r 33 (by omega)]; exact g1, g2.uh hs u, by rw [r 34 (by omega)]; exact g3, g4.uh hs u⟩
  · rw [r 33 (by omega)] at e
    obtain ⟨nl, nt, lt⟩ := w.X.a i t hi e
    exact ⟨_, _, lt.uh hs u⟩
  · rw [r 34 (by omega)] at e
    obtain ⟨nl, nt, lt⟩ := w.X.b i t hi e
    exact ⟨_, _, lt.uh hs u⟩
theorem IMk.uh {k : Nat} (hs : SL h) (m : IMk h I V k) (u : UH h h') (e46 : h'.2.1 46 k = h.2.1 46 k) : IMk h' I V k := by
  rcases m with ⟨m1, m2⟩ | ⟨b, m1, m2, m3, m4, m5, m6⟩
  · exact Or.inl ⟨by rw [e46]; exact m1, m2⟩
  · exact Or.inr ⟨b, by rw [e46]; exact m1, m2, m3, m4.uh m3 rsX0_l u, m5.uh hs m4 m3 u, m6⟩
theorem CQ.um (q : CQ h I V) (f : UM I I') : CQ h I' V :=
  ⟨q.s, ⟨q.b.S.cv (fun _ _ => rfl) (fun a ha => f a (by omega)), q.b.H.cv (fun _ _ => rfl) (fun a ha => f a (by omega)), q.b.P.cv (fun _ _ => rfl) (fun a ha => f a (by omega)), q.b.O.cv (fun _ _ => rfl) (fun a ha => f a (by omega)), q.b.N.cv (fun _ _ => rfl) (fun a ha => f a (by omega)), q.b.M.cv (fun _ _ => rfl) (fun a ha => f a (by omega)), q.b.X.cv (fun _ _ => rfl) (fun a ha => f a (by omega))⟩, q.w, q.k.cg (f 57 (by omega)) (f 58 (by omega))⟩
/-- after a query of both -/
theorem Rel.fq (r : Rel h I V) {I1 I2 : mI} (f1 : FrC I I1) (k1 : Kc I1 V) (f2 : FrM I1 I2) : Rel h I2 V := by
  obtain ⟨q, v, r51, ims⟩ := r
  have fr : ∀ a, a < 56 ∨ 146 ≤ a → I2 a = I a := fun a ha => by rw [f2 a (by omega), f1 a (by omega)]
  exact ⟨(q.fr f1 k1).um f2.um, fun a h1 h2 => by rw [f2 a (by omega), f1 a (by omega)]; exact v a h1 h2, by rw [fr 51 (by omega)]; exact r51, fun k hk => (ims.1 k hk).fi q.s (fun a ha => fr a (by omega)) rfl, ims.2⟩
/-- after an update of both -/
theorem Rel.fu (r : Rel h I V) {I1 I2 : mI} (f1 : UC I I1) (q1 : CQ h I1 V') (f2 : UM I1 I2) (v2 : MV I2 V') (s : S0 V V') : Rel h I2 V' := by
  obtain ⟨q, v, r51, ims⟩ := r
  exact ⟨q1.um f2, v2, by rw [f2 51 (by omega), f1 51 (by omega)]; exact r51, fun k hk => (ims.1 k hk).fi q.s (fun a ha => by rw [f2 a (by omega), f1 a (by omega)]) (s.slot (by omega)), ims.2⟩
/-- after one that changes the shape -/
theorem Rel.fh (r : Rel h I V) {I1 I2 : mI} (u : UH h h') (f1 : UT h I I1) (r51' : I1 51 0 = 0) (q1 : CQ h' I1 V') (f2 : UM I1 I2) (v2 : MV I2 V') (s : S0 V V') : Rel h' I2 V' := by
  obtain ⟨q, v, r51, ims⟩ := r
  have h147 := q.s.1
  have e46 : ∀ k, h'.2.1 46 k = h.2.1 46 k := fun k => by rw [u.2.2 46 (by omega) (by omega) (by omega) (by omega)]
  refine ⟨q1.um f2, v2, by rw [f2 51 (by omega)]; exact r51', fun k hk => ?_, fun j k b hj hk hne e1 e2 => ims.2 j k b hj hk hne (by rw [← e46]; exact e1) (by rw [← e46]; exact e2)⟩
  have m := (ims.1 k hk).fi (I' := I2) (V' := V') q.s (fun a ha => by rw [f2 a (by omega), f1 a (by omega)]) (s.slot (by omega))
  exact m.uh q.s u (e46 k)
end REL
