/-! what a query of the component stands on -/
theorem TRn.cg {h : mS} {I I' V : mI} {t x nl : Nat} (w : TRn h I V t x nl) (e : ∀ a, t ≤ a → a ≤ t + 7 → I' a = I a) : TRn h I' V t x nl := by
  unfold TRn at w ⊢
  simp only [e t (by omega) (by omega), e (t + 1) (by omega) (by omega), e (t + 2) (by omega) (by omega), e (t + 3) (by omega) (by omega), e (t + 4) (by omega) (by omega), e (t + 5) (by omega) (by omega), e (t + 6) (by omega) (by omega), e (t + 7) (by omega) (by omega)]
  exact w
theorem TR.cg {h : mS} {I I' V : mI} {t x : Nat} (w : TR h I V t x) (e : ∀ a, (38 ≤ a ∧ a ≤ 45) ∨ 147 ≤ a → I' a = I a) : TR h I' V t x := by
  obtain ⟨nl, w⟩ := w
  refine ⟨nl, w.cg fun a h1 h2 => e a ?_⟩
  rcases w.lo with q | q <;> omega
theorem BkX.cg {h : mS} {I I' V : mI} {b : Nat} (w : BkX h I b V) (e : ∀ a, (38 ≤ a ∧ a ≤ 45) ∨ 147 ≤ a → I' a = I a) : BkX h I' b V := by
  refine ⟨fun x hx => ?_, fun m hm hs => ?_, w.a, w.b⟩
  · obtain ⟨t, h1, h2⟩ := w.tx x hx
    exact ⟨t, h1, h2.cg e⟩
  · obtain ⟨t, u, h1, h2, h3, h4⟩ := w.wt m hm hs
    exact ⟨t, u, h1, h2.cg e, h3, h4.cg e⟩
theorem Bk.cg {h : mS} {I I' V : mI} {b : Nat} (w : Bk h I b V) (e : ∀ a, (b ≤ a ∧ a ≤ b + 36) ∨ (38 ≤ a ∧ a ≤ 45) ∨ 147 ≤ a → I' a = I a) : Bk h I' b V :=
  ⟨w.S.cg (fun a h1 h2 => e a (by omega)), w.H.cg (fun a h1 h2 => e a (by omega)), w.P.cg (fun a h1 h2 => e a (by omega)), w.O.cg (fun a h1 h2 => e a (by omega)), w.N.cg (fun a h1 h2 => e a (by omega)), w.M.cg (fun a h1 h2 => e a (by omega)), w.X.cg (fun a h1 => e a (by omega))⟩
/-- the tables of parents that are filled are right -/
def Kc (I V : mI) : Prop := ∀ v, v < 5 → ¬ I 57 v = (-1) → ∀ i, i < 40 → I 58 (40 * v + i) = paA V v (I 57 v) i
def CQ (h : mS) (I V : mI) : Prop := SL h ∧ Bk h I 1 V ∧ Wf V ∧ Kc I V
theorem CQ.s {h : mS} {I V : mI} (q : CQ h I V) : SL h := q.1
theorem CQ.b {h : mS} {I V : mI} (q : CQ h I V) : Bk h I 1 V := q.2.1
theorem CQ.w {h : mS} {I V : mI} (q : CQ h I V) : Wf V := q.2.2.1
theorem CQ.k {h : mS} {I V : mI} (q : CQ h I V) : Kc I V := q.2.2.2
theorem Bk.fr {h : mS} {I I' V : mI} (w : Bk h I 1 V) (f : FrC I I') : Bk h I' 1 V := w.cg (fun a ha => f a (by omega))
theorem CQ.fr {h : mS} {I I' V : mI} (q : CQ h I V) (f : FrC I I') (k : Kc I' V) : CQ h I' V := ⟨q.s, q.b.fr f, q.w, k⟩
theorem Kc.cg {I I' V : mI} (k : Kc I V) (h1 : I' 57 = I 57) (h2 : I' 58 = I 58) : Kc I' V := by
  unfold Kc
  rw [h1, h2]
  exact k
/-- and a query that leaves the tables -/
theorem CQ.fk {h : mS} {I I' V : mI} (q : CQ h I V) (f : ∀ a, a < 59 ∨ 83 ≤ a → I' a = I a) : CQ h I' V := q.fr (fun a ha => f a (by omega)) (q.k.cg (f 57 (by omega)) (f 58 (by omega)))
