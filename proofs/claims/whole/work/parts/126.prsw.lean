/-! texts: what is read is well formed -/
def TWf (a : mI) (q : Nat) : Prop := (∃ w, w < 11 ∧ (a 130 q = nI w ∨ a 130 q = nI (w + 16))) ∧ ((a 130 q &&& 15) < 5 → a 131 q = 61 ∧ a 132 q = 1) ∧ (a 131 q = 60 ∨ a 131 q = 61 ∨ a 131 q = 62)
def RWf (w : Int32) (a : mI) (l : Nat) : Prop := (∃ t, t ≤ 4 ∧ a 127 l = nI t ∧ ∀ j, j < t → TWf a (4 * l + j)) ∧ (w = 0 → a 128 l = 0 ∨ a 128 l = 1 ∨ a 128 l = 2) ∧ (¬ w = 0 → a 128 l = 3 ∨ a 128 l = 4) ∧ inN (a 129 l) 10000 ∧ (a 128 l = 2 → inN (a 129 l) 101)
def POf (w : Int32) (s : PS) : Prop := s.lf = 0 → s.nl ≤ 16 ∧ ∀ l, l < s.nl → RWf w s.a l
def PIf (w : Int32) (s : PS) (k : Nat) : Prop := s.lf = 0 → s.nl < 16 ∧ (∀ l, l < s.nl → RWf w s.a l) ∧ k ≤ 4 ∧ s.a 127 s.nl = nI k ∧ ∀ j, j < k → TWf s.a (4 * s.nl + j)
theorem TWf.cg {a b : mI} {q : Nat} (h : TWf a q) (e0 : b 130 q = a 130 q) (e1 : b 131 q = a 131 q) (e2 : b 132 q = a 132 q) : TWf b q := by
  unfold TWf at h ⊢
  rw [e0, e1, e2]; exact h
theorem RWf.cg {w : Int32} {a b : mI} {l : Nat} (h : RWf w a l) (e7 : b 127 l = a 127 l) (e8 : b 128 l = a 128 l) (e9 : b 129 l = a 129 l) (et : ∀ c j, 130 ≤ c → c ≤ 132 → j < 4 → b c (4 * l + j) = a c (4 * l + j)) : RWf w b l := by
  obtain ⟨⟨t, h1, h2, h3⟩, h4⟩ := h
  refine ⟨⟨t, h1, by rw [e7]; exact h2, fun j hj => (h3 j hj).cg (et 130 j (by decide) (by decide) (by omega)) (et 131 j (by decide) (by decide) (by omega)) (et 132 j (by decide) (by decide) (by omega))⟩, ?_⟩
  rw [e8, e9]; exact h4
theorem l16_lt {k : Nat} (h : k < 16) : l16 k = k := by unfold l16; rw [if_neg (by omega)]
section PW
variable {tp : Nat → Int32} {n : Nat} {w : Int32} {s : PS}
theorem PIf.adv {k : Nat} (h : PIf w s k) : PIf w (adv tp n s) k := h
theorem ltr_lf {f : Int32} (hf : ¬ f = 0) : (ltr tp n s f).lf = 0 ↔ False := by
  unfold ltr
  by_cases c : s.lf = 0
  · rw [if_pos c]; exact ⟨fun e => hf e, fun e => e.elim⟩
  · rw [if_neg c]; exact ⟨fun e => c e, fun e => e.elim⟩
theorem PIf.ltr {k : Nat} {f : Int32} (hf : ¬ f = 0) : PIf w (ltr tp n s f) k := fun e => ((ltr_lf hf).mp e).elim
theorem PIf.st {k : Nat} {x g t : Int32} (h : PIf w s k) (hk : s.lf = 0 → k < 4) (hx : ∃ v, v < 11 ∧ (x = nI v ∨ x = nI (v + 16))) (hg : (x &&& 15) < 5 → g = 61 ∧ t = 1) (hg2 : g = 60 ∨ g = 61 ∨ g = 62) : PIf w (stT s (l16 s.nl) k x g t) (k + 1) := by
  intro e
  rw [stT_lf.1] at e
  obtain ⟨h1, h2, h3, h4, h5⟩ := h e
  have hk := hk e
  rw [stT_nl, l16_lt h1]
  have ea : (stT s s.nl k x g t).a = uI (uI (uI (uI s.a 130 (4 * s.nl + k) x) 131 (4 * s.nl + k) g) 132 (4 * s.nl + k) t) 127 s.nl (nI k + 1) := by
    unfold stT; rw [if_pos ⟨hk, h1⟩]; rfl
  rw [ea]
  refine ⟨h1, fun l hl => (h2 l hl).cg ?_ ?_ ?_ (fun c j hc1 hc2 hj => ?_), by omega, ?_, fun j hj => ?_⟩
  · rw [uI_nj (by omega)]; simp (disch := decide) only [uI_ne]
  · simp (disch := decide) only [uI_ne]
  · simp (disch := decide) only [uI_ne]
  · rw [uI_ne (by omega)]
    unfold uI
    have : 4 * l + j ≠ 4 * s.nl + k := by omega
    simp [this]
  · rw [uI_eq, nI_1]
  · by_cases c : j = k
    · subst c
      have a1 : uI (uI (uI (uI s.a 130 (4 * s.nl + j) x) 131 (4 * s.nl + j) g) 132 (4 * s.nl + j) t) 127 s.nl (nI j + 1) 130 (4 * s.nl + j) = x := by
        rw [uI_ne (by decide), uI_ne (by decide), uI_ne (by decide), uI_eq]
      have a2 : uI (uI (uI (uI s.a 130 (4 * s.nl + j) x) 131 (4 * s.nl + j) g) 132 (4 * s.nl + j) t) 127 s.nl (nI j + 1) 131 (4 * s.nl + j) = g := by
        rw [uI_ne (by decide), uI_ne (by decide), uI_eq]
      have a3 : uI (uI (uI (uI s.a 130 (4 * s.nl + j) x) 131 (4 * s.nl + j) g) 132 (4 * s.nl + j) t) 127 s.nl (nI j + 1) 132 (4 * s.nl + j) = t := by
        rw [uI_ne (by decide), uI_eq]
      unfold TWf
      rw [a1, a2, a3]
      exact ⟨hx, hg, hg2⟩
    · have q : 4 * s.nl + j ≠ 4 * s.nl + k := by omega
      refine (h5 j (by omega)).cg ?_ ?_ ?_
      · rw [uI_ne (by decide), uI_ne (by decide), uI_ne (by decide), uI_nj q]
      · rw [uI_ne (by decide), uI_ne (by decide), uI_nj q, uI_ne (by decide)]
      · rw [uI_ne (by decide), uI_nj q, uI_ne (by decide), uI_ne (by decide)]
theorem iteC {c : Prop} {i : Decidable c} {x y : Int32} {P : Int32 → Prop} (hx : P x) (hy : P y) : P (@ite _ c i x y) := by
  by_cases h : c
  · rw [if_pos h]; exact hx
  · rw [if_neg h]; exact hy
theorem sbj_c (p : Nat) : sbj tp n p = (-1) ∨ ∃ v, v < 11 ∧ sbj tp n p = nI v := iteC (P := fun z => z = (-1) ∨ ∃ v, v < 11 ∧ z = nI v) (Or.inr ⟨0, by decide, rfl⟩) (iteC (P := fun z => z = (-1) ∨ ∃ v, v < 11 ∧ z = nI v) (Or.inr ⟨1, by decide, rfl⟩) (iteC (P := fun z => z = (-1) ∨ ∃ v, v < 11 ∧ z = nI v) (Or.inr ⟨2, by decide, rfl⟩) (iteC (P := fun z => z = (-1) ∨ ∃ v, v < 11 ∧ z = nI v) (Or.inr ⟨3, by decide, rfl⟩) (iteC (P := fun z => z = (-1) ∨ ∃ v, v < 11 ∧ z = nI v) (Or.inr ⟨4, by decide, rfl⟩) (iteC (P := fun z => z = (-1) ∨ ∃ v, v < 11 ∧ z = nI v) (Or.inr ⟨5, by decide, rfl⟩) (iteC (P := fun z => z = (-1) ∨ ∃ v, v < 11 ∧ z = nI v) (Or.inr ⟨6, by decide, rfl⟩) (iteC (P := fun z => z = (-1) ∨ ∃ v, v < 11 ∧ z = nI v) (Or.inr ⟨7, by decide, rfl⟩) (iteC (P := fun z => z = (-1) ∨ ∃ v, v < 11 ∧ z = nI v) (Or.inr ⟨8, by decide, rfl⟩) (iteC (P := fun z => z = (-1) ∨ ∃ v, v < 11 ∧ z = nI v) (Or.inr ⟨9, by decide, rfl⟩) (iteC (P := fun z => z = (-1) ∨ ∃ v, v < 11 ∧ z = nI v) (Or.inr ⟨10, by decide, rfl⟩) (Or.inl rfl)))))))))))
theorem and15 : ∀ v, v < 11 → (nI v &&& 15) = nI v ∧ (nI (v + 16) &&& 15) = nI v ∧ nI v + 16 = nI (v + 16) ∧ (nI v ≤ 4 ↔ v < 5) ∧ (nI v < 5 ↔ v < 5) := by decide
theorem ts0_lf {k : Nat} : (ts0 tp n s k).lf = 0 → s.lf = 0 ∧ k ≠ 4 := by
  unfold ts0
  by_cases c : k = 4
  · rw [if_pos c]; intro e; exact ((ltr_lf (by decide)).mp e).elim
  · rw [if_neg c]; exact fun e => ⟨e, c⟩
theorem ts0_nl {k : Nat} : (ts0 tp n s k).nl = s.nl := by unfold ts0; split <;> first | exact ltr_nl | rfl
theorem ts0_PI {k : Nat} (h : PIf w s k) : PIf w (ts0 tp n s k) k := by
  unfold ts0
  by_cases c : k = 4
  · rw [if_pos c]; exact PIf.ltr (by decide)
  · rw [if_neg c]; exact h
theorem ts1_e : (ts1 tp n s).nl = s.nl ∧ (ts1 tp n s).lf = s.lf ∧ (ts1 tp n s).lp = s.lp ∧ (ts1 tp n s).a = s.a := by
  unfold ts1; split <;> exact ⟨rfl, rfl, rfl, rfl⟩
theorem ts1_PI {k : Nat} (h : PIf w s k) : PIf w (ts1 tp n s) k := by
  unfold ts1; split <;> exact h
theorem ts2_PI {k : Nat} {b : Bool} (h : PIf w s k) (hk : s.lf = 0 → k < 4) (ht : (ts2 tp n s (l16 s.nl) k b).1 = true) : PIf w (ts2 tp n s (l16 s.nl) k b).2 (k + 1) ∧ (ts2 tp n s (l16 s.nl) k b).2.nl = s.nl := by
  unfold ts2 at ht ⊢
  by_cases c1 : sbj tp n s.p = (-1)
  · rw [if_pos c1] at ht; exact absurd (show false = true from ht) (by decide)
  · rw [if_neg c1] at ht ⊢
    obtain ⟨v, v1, v2⟩ := (sbj_c (tp := tp) (n := n) s.p).resolve_left c1
    obtain ⟨z1, z2, z3, z4, z5⟩ := and15 v v1
    have hx : ∃ u, u < 11 ∧ ((if b = true then sbj tp n s.p + 16 else sbj tp n s.p) = nI u ∨ (if b = true then sbj tp n s.p + 16 else sbj tp n s.p) = nI (u + 16)) := by
      refine ⟨v, v1, ?_⟩
      rw [v2, z3]
      cases b
      · exact Or.inl rfl
      · exact Or.inr rfl
    have hx15 : (if b = true then sbj tp n s.p + 16 else sbj tp n s.p) &&& 15 = nI v := by
      rw [v2, z3]
      cases b
      · exact z1
      · exact z2
    by_cases c2 : sbj tp n s.p ≤ 4
    · rw [if_pos c2]
      exact ⟨PIf.st (s := adv tp n s) h hk hx (fun _ => ⟨rfl, rfl⟩) (Or.inr (Or.inl rfl)), stT_nl⟩
    · rw [if_neg c2] at ht ⊢
      by_cases c3 : ¬ sgT tp n (adv tp n s).p = true
      · rw [if_pos c3] at ht; exact absurd (show false = true from ht) (by decide)
      · rw [if_neg c3] at ht ⊢
        by_cases c4 : ¬ knd tp n (adv tp n (adv tp n s)).p = 2
        · rw [if_pos c4] at ht; exact absurd (show false = true from ht) (by decide)
        · rw [if_neg c4]
          rw [Classical.not_not] at c3
          refine ⟨PIf.st (s := adv tp n (adv tp n (adv tp n s))) h hk hx (fun e => ?_) ?_, stT_nl⟩
          · rw [hx15, z5] at e
            rw [v2] at c2
            exact absurd (z4.mpr e) c2
          · unfold sgT at c3
            simp at c3
            rcases c3.2 with (e | e) | e
            · exact Or.inl e
            · exact Or.inr (Or.inr e)
            · exact Or.inr (Or.inl e)
theorem ts_PI {k : Nat} (h : PIf w s k) (ht : (tsS tp n s (l16 s.nl) k).1 = true) : PIf w (tsS tp n s (l16 s.nl) k).2 (k + 1) ∧ (tsS tp n s (l16 s.nl) k).2.nl = s.nl := by
  unfold tsS at ht ⊢
  have e1 : (ts1 tp n (ts0 tp n s k)).nl = s.nl := by rw [ts1_e.1, ts0_nl]
  have hk : (ts1 tp n (ts0 tp n s k)).lf = 0 → k < 4 := fun e => by
    rw [ts1_e.2.1] at e
    obtain ⟨g1, g2⟩ := ts0_lf e
    have := (h g1).2.2.1
    omega
  have z := ts2_PI (tp := tp) (n := n) (b := wdB tp n (ts0 tp n s k).p 1) (ts1_PI (tp := tp) (n := n) (ts0_PI (tp := tp) (n := n) h)) hk
  rw [e1] at z
  exact z ht
theorem tl_PI : ∀ {f k : Nat} {s : PS}, PIf w s k → (tlS tp n f s (l16 s.nl) k).1 = true → ∃ m, PIf w (tlS tp n f s (l16 s.nl) k).2 m ∧ (tlS tp n f s (l16 s.nl) k).2.nl = s.nl
  | 0, k, s, h, ht => absurd (show false = true from ht) (by decide)
  | f + 1, k, s, h, ht => by
    have h1 : PIf w (adv tp n s) k := h
    have et : tlS tp n (f + 1) s (l16 s.nl) k = if (tsS tp n (adv tp n s) (l16 s.nl) k).1 = false then tsS tp n (adv tp n s) (l16 s.nl) k else if wdB tp n (tsS tp n (adv tp n s) (l16 s.nl) k).2.p 13 = true then tlS tp n f (tsS tp n (adv tp n s) (l16 s.nl) k).2 (l16 s.nl) (k + 1) else tsS tp n (adv tp n s) (l16 s.nl) k := rfl
    rw [et] at ht ⊢
    by_cases c : (tsS tp n (adv tp n s) (l16 s.nl) k).1 = false
    · rw [if_pos c, c] at ht; exact absurd ht (by decide)
    · rw [if_neg c] at ht ⊢
      have c3 : (tsS tp n (adv tp n s) (l16 s.nl) k).1 = true := by simpa using c
      have z := ts_PI (tp := tp) (n := n) (s := adv tp n s) h1 c3
      have z2 : (tsS tp n (adv tp n s) (l16 s.nl) k).2.nl = s.nl := z.2
      have z1 : PIf w (tsS tp n (adv tp n s) (l16 s.nl) k).2 (k + 1) := z.1
      by_cases c4 : wdB tp n (tsS tp n (adv tp n s) (l16 s.nl) k).2.p 13 = true
      · rw [if_pos c4] at ht ⊢
        have y := tl_PI (f := f) z1
        rw [z2] at y
        exact y ht
      · rw [if_neg c4]
        exact ⟨k + 1, z1, z2⟩
theorem need_e {c : Int32} : (needS tp n s c).2.nl = s.nl ∧ (needS tp n s c).2.lf = s.lf ∧ (needS tp n s c).2.lp = s.lp ∧ (needS tp n s c).2.a = s.a := by
  unfold needS; split <;> exact ⟨rfl, rfl, rfl, rfl⟩
theorem actA_c {p : Nat} (h : ¬ actA tp n w p = (-1)) : (w = 0 → actA tp n w p = 0 ∨ actA tp n w p = 1 ∨ actA tp n w p = 2) ∧ (¬ w = 0 → actA tp n w p = 3 ∨ actA tp n w p = 4) := by
  unfold actA at h ⊢
  by_cases c : w = 0
  · simp only [if_pos c] at h ⊢
    refine ⟨fun _ => ?_, fun e => absurd c e⟩
    split
    · exact Or.inl rfl
    · split
      · exact Or.inr (Or.inl rfl)
      · split
        · exact Or.inr (Or.inr rfl)
        · rename_i c1 c2 c3; rw [if_neg c1, if_neg c2, if_neg c3] at h; exact absurd rfl h
  · simp only [if_neg c] at h ⊢
    refine ⟨fun e => absurd e c, fun _ => ?_⟩
    split
    · exact Or.inl rfl
    · split
      · exact Or.inr rfl
      · rename_i c1 c2; rw [if_neg c1, if_neg c2] at h; exact absurd rfl h
/-- a line is closed -/
theorem PIf.close {k : Nat} {x y : Int32} {q : Nat} (h : PIf w s k) (hx : (w = 0 → x = 0 ∨ x = 1 ∨ x = 2) ∧ (¬ w = 0 → x = 3 ∨ x = 4)) (hy : inN y 10000) (hy2 : s.lf = 0 → x = 2 → inN y 101) {a : mI} (ha : ∀ c, c ≠ 128 → c ≠ 129 → a c = s.a c) (h8 : s.lf = 0 → ∀ l, l ≠ s.nl → a 128 l = s.a 128 l ∧ a 129 l = s.a 129 l) (e8 : s.lf = 0 → a 128 s.nl = x ∧ a 129 s.nl = y) : POf w ⟨q, s.lf, s.lp, s.nl + 1, a⟩ := by
  intro e
  have e : s.lf = 0 := e
  obtain ⟨h1, h2, h3, h4, h5⟩ := h e
  refine ⟨show s.nl + 1 ≤ 16 by omega, fun l hl => ?_⟩
  have hl : l < s.nl + 1 := hl
  show RWf w a l
  by_cases c : l = s.nl
  · subst c
    obtain ⟨g1, g2⟩ := e8 e
    refine ⟨⟨k, h3, by rw [ha 127 (by decide) (by decide)]; exact h4, fun j hj => (h5 j hj).cg (by rw [ha 130 (by decide) (by decide)]) (by rw [ha 131 (by decide) (by decide)]) (by rw [ha 132 (by decide) (by decide)])⟩, ?_⟩
    rw [g1, g2]
    exact ⟨hx.1, hx.2, hy, hy2 e⟩
  · refine (h2 l (by omega)).cg (by rw [ha 127 (by decide) (by decide)]) (h8 e l c).1 (h8 e l c).2 (fun b j b1 b2 _ => by rw [ha b (by omega) (by omega)])
theorem need_PO {c : Int32} (h : POf w s) : POf w (needS tp n s c).2 := by
  unfold needS; split <;> exact h
theorem acS_PO {k : Nat} (h : PIf w s k) (ht : (acS tp n s w (l16 s.nl)).1 = true) : POf w (acS tp n s w (l16 s.nl)).2 := by
  unfold acS at ht ⊢
  by_cases c : actA tp n w s.p = (-1)
  · rw [if_pos c] at ht; exact absurd (show false = true from ht) (by decide)
  · rw [if_neg c] at ht ⊢
    have hx := actA_c c
    generalize actA tp n w s.p = x at hx ht ⊢
    have hl : s.lf = 0 → l16 s.nl = s.nl := fun e => l16_lt (h e).1
    unfold ac2 at ht ⊢
    by_cases c2 : x = 0
    · rw [if_pos c2]
      refine need_PO ?_
      show POf w ⟨_, s.lf, s.lp, s.nl + 1, uI (uI s.a 128 (l16 s.nl) x) 129 (l16 s.nl) 0⟩
      refine PIf.close (s := s) (x := x) (y := 0) h hx ⟨0, by decide, rfl⟩ (fun _ _ => ⟨0, by decide, rfl⟩) (fun c h1 h2 => by rw [uI_ne h2, uI_ne h1]) (fun e l hl2 => ?_) (fun e => ?_)
      · rw [hl e, uI_nj hl2, uI_ne (show (129 : Nat) ≠ 128 by decide), uI_ne (show (128 : Nat) ≠ 129 by decide), uI_nj hl2]; exact ⟨rfl, rfl⟩
      · rw [hl e, uI_ne (show (128 : Nat) ≠ 129 by decide), uI_eq, uI_eq]; exact ⟨rfl, rfl⟩
    · rw [if_neg c2] at ht ⊢
      by_cases c3 : ¬ knd tp n (adv tp n (setA s 128 (l16 s.nl) x)).p = 2
      · rw [if_pos c3] at ht; exact absurd (show false = true from ht) (by decide)
      · rw [if_neg c3]
        refine need_PO ?_
        rw [Classical.not_not] at c3
        have hw := wor_in c3
        by_cases c4 : x = 2 ∧ ¬ wor tp n (adv tp n (setA s 128 (l16 s.nl) x)).p ≤ 100
        · rw [if_pos c4]
          intro e
          exact ((ltr_lf (by decide)).mp (show (ltr tp n (setA (adv tp n (setA s 128 (l16 s.nl) x)) 129 (l16 s.nl) 0) 2).lf = 0 from e)).elim
        · rw [if_neg c4]
          generalize wor tp n (adv tp n (setA s 128 (l16 s.nl) x)).p = y at hw c4 ⊢
          show POf w ⟨_, s.lf, s.lp, s.nl + 1, uI (uI (uI s.a 128 (l16 s.nl) x) 129 (l16 s.nl) 0) 129 (l16 s.nl) y⟩
          refine PIf.close (s := s) (x := x) (y := y) h hx hw (fun _ e2 => ?_) (fun c h1 h2 => by rw [uI_ne h2, uI_ne h2, uI_ne h1]) (fun e l hl2 => ?_) (fun e => ?_)
          · have q : y ≤ 100 := Classical.byContradiction fun z => c4 ⟨e2, z⟩
            obtain ⟨v, v1, rfl⟩ := hw
            rw [fa_le, nI_toInt (by omega)] at q
            have e100 : (100 : Int32).toInt = 100 := by decide
            rw [e100] at q
            exact ⟨v, by omega, rfl⟩
          · rw [hl e, uI_nj hl2, uI_nj hl2, uI_ne (show (129 : Nat) ≠ 128 by decide), uI_ne (show (128 : Nat) ≠ 129 by decide), uI_ne (show (128 : Nat) ≠ 129 by decide), uI_nj hl2]; exact ⟨rfl, rfl⟩
          · rw [hl e, uI_ne (show (128 : Nat) ≠ 129 by decide), uI_ne (show (128 : Nat) ≠ 129 by decide), uI_eq, uI_eq]; exact ⟨rfl, rfl⟩
theorem ln0_PI (h : POf w s) : PIf w (ln0 tp n s) 0 := by
  intro e
  unfold ln0 at e ⊢
  by_cases c : s.nl = 16
  · rw [if_pos c] at e
    exact ((ltr_lf (by decide)).mp (show (ltr tp n s 3).lf = 0 from e)).elim
  · rw [if_neg c] at e ⊢
    obtain ⟨h1, h2⟩ := h e
    have h16 : s.nl < 16 := by omega
    rw [l16_lt h16]
    refine ⟨h16, fun l hl => (h2 l hl).cg ?_ ?_ ?_ (fun b j b1 b2 _ => ?_), by decide, ?_, fun j hj => by omega⟩
    · show uI s.a 127 s.nl 0 127 l = _
      rw [uI_nj (show l ≠ s.nl from Nat.ne_of_lt hl)]
    · show uI s.a 127 s.nl 0 128 l = _
      rw [uI_ne (by decide)]
    · show uI s.a 127 s.nl 0 129 l = _
      rw [uI_ne (by decide)]
    · show uI s.a 127 s.nl 0 b _ = _
      rw [uI_ne (by omega)]
    · show uI s.a 127 s.nl 0 127 s.nl = _
      rw [uI_eq]; rfl
theorem ln_PO (h : POf w s) (ht : (lnS tp n s w).1 = true) : POf w (lnS tp n s w).2 := by
  have h0 := ln0_PI (tp := tp) (n := n) h
  have e0 := ln0_nl (tp := tp) (n := n) (s := s)
  unfold lnS at ht ⊢
  by_cases c : wdB tp n (ln0 tp n s).p 0 = true
  · rw [if_pos c] at ht ⊢
    have z := tl_PI (tp := tp) (n := n) (f := n + 1) h0
    rw [e0] at z
    unfold ln1 at ht ⊢
    by_cases c2 : (tlS tp n (n + 1) (ln0 tp n s) (l16 s.nl) 0).1 = false
    · rw [if_pos c2, c2] at ht; exact absurd ht (by decide)
    · rw [if_neg c2] at ht ⊢
      obtain ⟨m, z1, z2⟩ := z (by simpa using c2)
      by_cases c3 : (needS tp n (tlS tp n (n + 1) (ln0 tp n s) (l16 s.nl) 0).2 58).1 = false
      · rw [if_pos c3, c3] at ht; exact absurd ht (by decide)
      · rw [if_neg c3] at ht ⊢
        have hn := need_e (tp := tp) (n := n) (s := (tlS tp n (n + 1) (ln0 tp n s) (l16 s.nl) 0).2) (c := 58)
        have z3 : PIf w (needS tp n (tlS tp n (n + 1) (ln0 tp n s) (l16 s.nl) 0).2 58).2 m := by
          intro e
          rw [hn.1, hn.2.2.2]
          rw [hn.2.1] at e
          exact z1 e
        have y := acS_PO (tp := tp) (n := n) z3
        rw [hn.1, z2] at y
        exact y ht
  · rw [if_neg c] at ht ⊢
    have y := acS_PO (tp := tp) (n := n) h0
    rw [e0] at y
    exact y ht
theorem tx_PO : ∀ {f : Nat} {s : PS}, POf w s → (txS tp n f s w).1 = true → POf w (txS tp n f s w).2
  | 0, s, h, ht => absurd (show false = true from ht) (by decide)
  | f + 1, s, h, ht => by
    have et : txS tp n (f + 1) s w = if knd tp n s.p = 0 then (true, s) else if (lnS tp n s w).1 = false then lnS tp n s w else txS tp n f (lnS tp n s w).2 w := rfl
    rw [et] at ht ⊢
    by_cases c : knd tp n s.p = 0
    · rw [if_pos c]; exact h
    · rw [if_neg c] at ht ⊢
      by_cases c2 : (lnS tp n s w).1 = false
      · rw [if_pos c2, c2] at ht; exact absurd ht (by decide)
      · rw [if_neg c2] at ht ⊢
        exact tx_PO (f := f) (ln_PO h (by simpa using c2)) ht
end PW
