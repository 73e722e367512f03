/-! rings of houses -/
abbrev CqT : Type := (Nat → Int32) × (Nat → Int32) × (Nat → Int32)
noncomputable def cqX (V : mI) (i j : Nat) : Nat := 8 * hN V (pkI V 0 i) + hN V (pkI V 1 j)
noncomputable def cqS (V : mI) (i j : Nat) (s : CqT) : CqT := cif (mpA V i j ∧ s.1 (cqX V i j) < gfA V i j) (upd s.1 (cqX V i j) (gfA V i j), upd s.2.1 (cqX V i j) (nI (pkI V 0 i)), upd s.2.2 (cqX V i j) (nI (pkI V 1 j))) s
noncomputable def cqJ (V : mI) (i : Nat) (s : CqT) : Nat → CqT
  | 0 => s
  | j + 1 => cqS V i j (cqJ V i s j)
noncomputable def cqI (V : mI) : Nat → CqT
  | 0 => (fun _ => (-1), fun _ => (-1), fun _ => (-1))
  | i + 1 => cqJ V i (cqI V i) (pkC V 1)
noncomputable def cqA (V : mI) : CqT := cqI V (pkC V 0)
def cqOK (s : CqT) : Prop := ∀ x, s.1 x = (-1) ∨ (inN (s.1 x) 159985 ∧ ∃ p, p < 20 ∧ s.2.1 x = nI p)
theorem cqX_lt {V : mI} (w : Wf V) {i j : Nat} (hi : i < pkC V 0) (hj : j < pkC V 1) : cqX V i j < 64 := by
  have n20 := w.P.n20
  have := (hN_ok w (p := pkI V 0 i) (by have := (pk_ok hi).1; omega)).1
  have := (hN_ok w (p := pkI V 1 j) (by have := (pk_ok hj).1; omega)).1
  unfold cqX
  omega
theorem cqS_ok {V : mI} (w : Wf V) {i j : Nat} (hi : i < pkC V 0) (hj : j < pkC V 1) {s : CqT} (h : cqOK s) : cqOK (cqS V i j s) := by
  have n20 := w.P.n20
  unfold cqS
  by_cases c : mpA V i j ∧ s.1 (cqX V i j) < gfA V i j
  · rw [cif_t c]
    intro x
    show upd s.1 (cqX V i j) (gfA V i j) x = (-1) ∨ (inN (upd s.1 (cqX V i j) (gfA V i j) x) 159985 ∧ ∃ p, p < 20 ∧ upd s.2.1 (cqX V i j) (nI (pkI V 0 i)) x = nI p)
    by_cases e : x = cqX V i j
    · rw [e, upd_same', upd_same']
      obtain ⟨e1, e2⟩ := gv_ok w hi hj
      exact Or.inr ⟨⟨_, by omega, e1⟩, pkI V 0 i, by have := (pk_ok hi).1; omega, rfl⟩
    · rw [upd_ne' e, upd_ne' e]; exact h x
  · rw [cif_f c]; exact h
theorem cqJ_ok {V : mI} (w : Wf V) {i : Nat} (hi : i < pkC V 0) {s : CqT} (h : cqOK s) : ∀ j, j ≤ pkC V 1 → cqOK (cqJ V i s j) := by
  intro j
  induction j with
  | zero => intro _; exact h
  | succ j ih => intro hj; exact cqS_ok w hi (by omega) (ih (by omega))
theorem cqI_ok {V : mI} (w : Wf V) : ∀ i, i ≤ pkC V 0 → cqOK (cqI V i) := by
  intro i
  induction i with
  | zero => intro _ x; exact Or.inl rfl
  | succ i ih => intro hi; exact cqJ_ok w (by omega) (ih (by omega)) _ (Nat.le_refl _)
noncomputable def cG (V : mI) (x : Nat) : Int32 := (cqA V).1 x
/-- house a - 1 may give to house b - 1; the gift -/
def lk4 (V : mI) (a b : Nat) : Prop := ¬ cG V (8 * (a - 1) + (b - 1)) = (-1)
noncomputable def gg (V : mI) (a b : Nat) : Nat := (cG V (8 * (a - 1) + (b - 1))).toNatClampNeg
theorem gg_ok {V : mI} (w : Wf V) {a b : Nat} (h : lk4 V a b) : cG V (8 * (a - 1) + (b - 1)) = nI (gg V a b) ∧ gg V a b < 159985 := by
  rcases cqI_ok w (pkC V 0) (Nat.le_refl _) (8 * (a - 1) + (b - 1)) with e | ⟨h1, -⟩
  · exact absurd e h
  · have h1 : inN (cG V (8 * (a - 1) + (b - 1))) 159985 := h1
    exact ⟨(h1.nat (by decide)).2, (h1.nat (by decide)).1⟩
/-- a ring by its houses, each one more, 0 for none -/
def r4 (V : mI) (a b c d : Nat) : Prop := 1 ≤ a ∧ a < b ∧ b ≤ cH V ∧ c ≤ cH V ∧ d ≤ cH V ∧ (c = 0 → d = 0) ∧ (c ≠ 0 → a < c ∧ c ≠ b) ∧ (d ≠ 0 → a < d ∧ d ≠ b ∧ d ≠ c) ∧ lk4 V a b ∧ (c = 0 → lk4 V b a) ∧ (c ≠ 0 → lk4 V b c ∧ (d = 0 → lk4 V c a) ∧ (d ≠ 0 → lk4 V c d ∧ lk4 V d a))
noncomputable def s4 (V : mI) (a b c d : Nat) : Nat := gg V a b + (if c = 0 then gg V b a else gg V b c + (if d = 0 then gg V c a else gg V c d + gg V d a))
def n4 (c d : Nat) : Nat := if c = 0 then 2 else if d = 0 then 3 else 4
def e4 (a b c d : Nat) : Nat := 729 * a + 81 * b + 9 * c + d
def BO (V : mI) (P : Nat → Nat → Nat → Nat → Prop) (a b c d n s : Nat) : Prop := (n = 0 ∧ s = 0 ∧ ∀ a' b' c' d', r4 V a' b' c' d' → ¬ P a' b' c' d') ∨
  (r4 V a b c d ∧ P a b c d ∧ n = n4 c d ∧ s = s4 V a b c d ∧ ∀ a' b' c' d', r4 V a' b' c' d' → P a' b' c' d' → s4 V a' b' c' d' < s ∨ (s4 V a' b' c' d' = s ∧ (n < n4 c' d' ∨ (n = n4 c' d' ∧ e4 a b c d ≤ e4 a' b' c' d'))))
theorem n4_pos (c d : Nat) : 2 ≤ n4 c d ∧ n4 c d ≤ 4 := by unfold n4; split <;> (try split) <;> omega
theorem BO_u {V : mI} {P : Nat → Nat → Nat → Nat → Prop} (h8 : cH V ≤ 8) {a b c d n s a' b' c' d' n' s' : Nat} (h : BO V P a b c d n s) (h' : BO V P a' b' c' d' n' s') : n = n' ∧ s = s' ∧ (n ≠ 0 → a = a' ∧ b = b' ∧ c = c' ∧ d = d') := by
  have p1 := n4_pos c d
  have p2 := n4_pos c' d'
  rcases h with ⟨h1, h2, h3⟩ | ⟨h1, h2, h3, h4, h5⟩
  · rcases h' with ⟨g1, g2, g3⟩ | ⟨g1, g2, g3, g4, g5⟩
    · exact ⟨by omega, by omega, fun e => absurd h1 e⟩
    · exact absurd g2 (h3 _ _ _ _ g1)
  · rcases h' with ⟨g1, g2, g3⟩ | ⟨g1, g2, g3, g4, g5⟩
    · exact absurd h2 (g3 _ _ _ _ h1)
    · have k1 := h5 _ _ _ _ g1 g2
      have k2 := g5 _ _ _ _ h1 h2
      rw [← g3, ← g4] at k1
      rw [← h3, ← h4] at k2
      have es : s = s' := by omega
      have en : n = n' := by omega
      have ee : e4 a b c d = e4 a' b' c' d' := by omega
      refine ⟨en, es, fun _ => ?_⟩
      unfold e4 at ee
      have q1 := h1.2.2.2.1
      have q2 := h1.2.2.2.2.1
      have q3 := h1.2.2.1
      have q4 := g1.2.2.2.1
      have q5 := g1.2.2.2.2.1
      have q6 := g1.2.2.1
      omega
theorem BO_cg {V : mI} {P P' : Nat → Nat → Nat → Nat → Prop} {a b c d n s : Nat} (h : BO V P a b c d n s) (hp : ∀ a b c d, r4 V a b c d → (P' a b c d ↔ P a b c d)) : BO V P' a b c d n s := by
  rcases h with ⟨h1, h2, h3⟩ | ⟨h1, h2, h3, h4, h5⟩
  · exact Or.inl ⟨h1, h2, fun a b c d hr hp' => h3 a b c d hr ((hp a b c d hr).mp hp')⟩
  · exact Or.inr ⟨h1, (hp _ _ _ _ h1).mpr h2, h3, h4, fun a b c d hr hp' => h5 a b c d hr ((hp a b c d hr).mp hp')⟩
theorem BO_new {V : mI} {P P' : Nat → Nat → Nat → Nat → Prop} {a b c d n s a1 b1 c1 d1 : Nat} (h : BO V P a b c d n s) (hr : r4 V a1 b1 c1 d1) (h1 : P' a1 b1 c1 d1) (hp : ∀ a b c d, r4 V a b c d → P' a b c d → P a b c d ∨ (a = a1 ∧ b = b1 ∧ c = c1 ∧ d = d1))
    (hb : n = 0 ∨ s < s4 V a1 b1 c1 d1 ∨ (s = s4 V a1 b1 c1 d1 ∧ (n4 c1 d1 < n ∨ (n4 c1 d1 = n ∧ e4 a1 b1 c1 d1 < e4 a b c d)))) : BO V P' a1 b1 c1 d1 (n4 c1 d1) (s4 V a1 b1 c1 d1) := by
  refine Or.inr ⟨hr, h1, rfl, rfl, fun a' b' c' d' hr' hp' => ?_⟩
  rcases hp _ _ _ _ hr' hp' with hP | ⟨rfl, rfl, rfl, rfl⟩
  · rcases h with ⟨g1, g2, g3⟩ | ⟨g1, g2, g3, g4, g5⟩
    · exact absurd hP (g3 _ _ _ _ hr')
    · have := g5 _ _ _ _ hr' hP
      have := n4_pos c d
      omega
  · exact Or.inr ⟨rfl, Or.inr ⟨rfl, Nat.le_refl _⟩⟩
theorem BO_old {V : mI} {P P' : Nat → Nat → Nat → Nat → Prop} {a b c d n s a1 b1 c1 d1 : Nat} (h : BO V P a b c d n s) (h0 : n ≠ 0) (hm : ∀ a b c d, r4 V a b c d → P a b c d → P' a b c d) (hp : ∀ a b c d, r4 V a b c d → P' a b c d → P a b c d ∨ (a = a1 ∧ b = b1 ∧ c = c1 ∧ d = d1))
    (hb : s4 V a1 b1 c1 d1 < s ∨ (s4 V a1 b1 c1 d1 = s ∧ (n < n4 c1 d1 ∨ (n = n4 c1 d1 ∧ e4 a b c d ≤ e4 a1 b1 c1 d1)))) : BO V P' a b c d n s := by
  rcases h with ⟨g1, g2, g3⟩ | ⟨g1, g2, g3, g4, g5⟩
  · exact absurd g1 h0
  · refine Or.inr ⟨g1, hm _ _ _ _ g1 g2, g3, g4, fun a' b' c' d' hr' hp' => ?_⟩
    rcases hp _ _ _ _ hr' hp' with hP | ⟨rfl, rfl, rfl, rfl⟩
    · exact g5 _ _ _ _ hr' hP
    · exact hb
theorem s4_b {V : mI} (w : Wf V) {a b c d : Nat} (h : r4 V a b c d) : s4 V a b c d < 639940 := by
  obtain ⟨h1, h2, h3, h4, h5, h6, h7, h8, h9, h10, h11⟩ := h
  have g1 := (gg_ok w h9).2
  unfold s4
  by_cases c0 : c = 0
  · rw [if_pos c0]; have := (gg_ok w (h10 c0)).2; omega
  · rw [if_neg c0]
    obtain ⟨k1, k2, k3⟩ := h11 c0
    have := (gg_ok w k1).2
    by_cases d0 : d = 0
    · rw [if_pos d0]; have := (gg_ok w (k2 d0)).2; omega
    · rw [if_neg d0]
      have := (gg_ok w (k3 d0).1).2
      have := (gg_ok w (k3 d0).2).2
      omega
/-- the ring: its houses, how many, its gifts -/
noncomputable def rgT (V : mI) : Nat × Nat × Nat × Nat × Nat × Nat := @Classical.epsilon _ ⟨(0, 0, 0, 0, 0, 0)⟩ (fun t => BO V (fun _ _ _ _ => True) t.1 t.2.1 t.2.2.1 t.2.2.2.1 t.2.2.2.2.1 t.2.2.2.2.2)
def RGB (V : mI) : Prop := BO V (fun _ _ _ _ => True) (rgT V).1 (rgT V).2.1 (rgT V).2.2.1 (rgT V).2.2.2.1 (rgT V).2.2.2.2.1 (rgT V).2.2.2.2.2
theorem rgT_bo {V : mI} {a b c d n s : Nat} (h : BO V (fun _ _ _ _ => True) a b c d n s) : RGB V := Classical.epsilon_spec (p := fun t : Nat × Nat × Nat × Nat × Nat × Nat => BO V (fun _ _ _ _ => True) t.1 t.2.1 t.2.2.1 t.2.2.2.1 t.2.2.2.2.1 t.2.2.2.2.2) ⟨(a, b, c, d, n, s), h⟩
theorem rgT_of {V : mI} (h8 : cH V ≤ 8) {a b c d n s : Nat} (h : BO V (fun _ _ _ _ => True) a b c d n s) : (rgT V).2.2.2.2.1 = n ∧ (rgT V).2.2.2.2.2 = s ∧ (n ≠ 0 → (rgT V).1 = a ∧ (rgT V).2.1 = b ∧ (rgT V).2.2.1 = c ∧ (rgT V).2.2.2.1 = d) := by
  have hs : BO V (fun _ _ _ _ => True) (rgT V).1 (rgT V).2.1 (rgT V).2.2.1 (rgT V).2.2.2.1 (rgT V).2.2.2.2.1 (rgT V).2.2.2.2.2 := Classical.epsilon_spec (p := fun t : Nat × Nat × Nat × Nat × Nat × Nat => BO V (fun _ _ _ _ => True) t.1 t.2.1 t.2.2.1 t.2.2.2.1 t.2.2.2.2.1 t.2.2.2.2.2) ⟨(a, b, c, d, n, s), h⟩
  obtain ⟨q1, q2, q3⟩ := BO_u h8 hs h
  exact ⟨q1, q2, fun hn => q3 (by omega)⟩
/-- place k of the row -/
def rwK (a b c d k : Nat) : Nat := if k = 0 then a - 1 else if k = 1 then b - 1 else if k = 2 then c - 1 else d - 1
noncomputable def rgK (V : mI) (k : Nat) : Nat := rwK (rgT V).1 (rgT V).2.1 (rgT V).2.2.1 (rgT V).2.2.2.1 k
noncomputable def rgN (V : mI) : Nat := min 4 (rgT V).2.2.2.2.1
noncomputable def rgS (V : mI) : Nat := (rgT V).2.2.2.2.2
noncomputable def ringA (V : mI) (x : Int32) : Int32 := cif (inN x 2 ∧ rgN V ≠ 0) (if x = 0 then nI (rgN V) else nI (rgS V)) (-1)
noncomputable def rgX (V : mI) (k : Nat) : Nat := 8 * rgK V k + rgK V (if k + 1 < rgN V then k + 1 else 0)
noncomputable def rgdA (V : mI) (k x : Int32) : Int32 := cif (inN k (rgN V) ∧ inN x 3) (if x = 0 then nI (rgK V k.toNatClampNeg) else if x = 1 then (cqA V).2.1 (rgX V k.toNatClampNeg) else (cqA V).2.2 (rgX V k.toNatClampNeg)) (-1)
theorem rgN_4 (V : mI) : rgN V ≤ 4 := by unfold rgN; omega
theorem rg_ok {V : mI} (w : Wf V) (h : RGB V) : rgN V ≤ 4 ∧ rgS V < 639940 ∧ (rgN V ≠ 0 → 2 ≤ rgN V) ∧ ∀ k, k < rgN V → rgK V k < 8 ∧ rgX V k < 64 ∧ ¬ cG V (rgX V k) = (-1) := by
  have h8 := w.H.n8
  unfold RGB at h
  rcases h with ⟨h1, h2, -⟩ | ⟨h1, -, h3, h4, -⟩
  · have e : rgN V = 0 := by unfold rgN; omega
    have e2 : rgS V = 0 := h2
    exact ⟨by omega, by omega, fun q => absurd e q, fun k hk => absurd hk (by omega)⟩
  · have p := n4_pos (rgT V).2.2.1 (rgT V).2.2.2.1
    have en : rgN V = n4 (rgT V).2.2.1 (rgT V).2.2.2.1 := by unfold rgN; omega
    have es : rgS V = s4 V (rgT V).1 (rgT V).2.1 (rgT V).2.2.1 (rgT V).2.2.2.1 := h4
    have sb := s4_b w h1
    refine ⟨by omega, by omega, fun _ => by omega, fun k hk => ?_⟩
    unfold rgX rgK
    rw [en] at hk ⊢
    generalize (rgT V).1 = a at h1
    generalize (rgT V).2.1 = b at h1
    generalize (rgT V).2.2.1 = c at h1 hk
    generalize (rgT V).2.2.2.1 = d at h1 hk
    obtain ⟨r1, r2, r3, r4', r5, r6, r7, r8, r9, r10, r11⟩ := h1
    have lt8 : ∀ k, rwK a b c d k < 8 := fun k => by
      unfold rwK
      split
      · omega
      · split
        · omega
        · split <;> omega
    refine ⟨lt8 k, by have := lt8 k; have := lt8 (if k + 1 < n4 c d then k + 1 else 0); omega, ?_⟩
    unfold n4 at hk ⊢
    by_cases c0 : c = 0
    · rw [if_pos c0] at hk ⊢
      have : k = 0 ∨ k = 1 := by omega
      rcases this with rfl | rfl
      · exact r9
      · exact r10 c0
    · rw [if_neg c0] at hk ⊢
      obtain ⟨k1, k2, k3⟩ := r11 c0
      by_cases d0 : d = 0
      · rw [if_pos d0] at hk ⊢
        have : k = 0 ∨ k = 1 ∨ k = 2 := by omega
        rcases this with rfl | rfl | rfl
        · exact r9
        · exact k1
        · exact k2 d0
      · rw [if_neg d0] at hk ⊢
        have : k = 0 ∨ k = 1 ∨ k = 2 ∨ k = 3 := by omega
        rcases this with rfl | rfl | rfl | rfl
        · exact r9
        · exact k1
        · exact (k3 d0).1
        · exact (k3 d0).2
