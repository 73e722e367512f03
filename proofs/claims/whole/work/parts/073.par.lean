/-! parents as heard, kin -/
def atN (V : mI) (k : Nat) : Nat := (V 105 (4 * k + 2)).toNatClampNeg
def hdY (V : mI) (k v : Nat) : Int32 := if wyA V (atN V k) v = (-1) then (-1) else V 105 (4 * k + 3) + wyA V (atN V k) v
def paI (V : mI) (k : Nat) : Nat := 2 * (V 105 (4 * k)).toNatClampNeg + (V 97 (V 105 (4 * k + 1)).toNatClampNeg).toNatClampNeg
def paF (V : mI) (v : Nat) (y : Int32) : Nat → Nat → Int32
  | 0 => fun _ => (-1)
  | k + 1 => if ¬ hdY V k v = (-1) ∧ ¬ y < hdY V k v then upd (paF V v y k) (paI V k) (V 105 (4 * k + 1)) else paF V v y k
def paA (V : mI) (v : Nat) (y : Int32) : Nat → Int32 := paF V v y (cN V)
def pr (P : Nat → Int32) (c f : Nat) : Prop := P (2 * c) = nI f ∨ P (2 * c + 1) = nI f
/-- what a table of parents is like -/
def paOK (V : mI) (P : Nat → Int32) : Prop := ∀ i, i < 40 → P i = (-1) ∨ ∃ f, f < cP V ∧ P i = nI f ∧ i / 2 < cP V ∧ (V 99 f).toInt < (V 99 (i / 2)).toInt
theorem inN.nat {x : Int32} {n : Nat} (h : inN x n) (hn : n < 2 ^ 31) : x.toNatClampNeg < n ∧ x = nI x.toNatClampNeg := by
  obtain ⟨j, hj, e⟩ := h
  rw [e, nI_clamp (by omega)]
  exact ⟨hj, rfl⟩
theorem paI_ok {V : mI} (w : Wf V) {k : Nat} (hk : k < cN V) : ∃ c f, c < cP V ∧ f < cP V ∧ V 105 (4 * k) = nI c ∧ V 105 (4 * k + 1) = nI f ∧ (V 97 f = 0 ∨ V 97 f = 1) ∧ paI V k = 2 * c + (V 97 f).toNatClampNeg ∧ (V 97 f).toNatClampNeg < 2 ∧ (V 97 f) = nI (V 97 f).toNatClampNeg ∧ (V 99 f).toInt < (V 99 c).toInt := by
  have n20 := w.P.n20
  obtain ⟨c, hc, ec⟩ := w.N.chi k hk
  obtain ⟨f, hf, ef⟩ := w.N.par k hk
  have hkd := w.P.kin f (by omega)
  refine ⟨c, f, hc, hf, ec, ef, hkd, ?_, ?_, ?_, ?_⟩
  · unfold paI
    rw [ec, ef, nI_clamp (by omega), nI_clamp (by omega)]
  · rcases hkd with e | e <;> rw [e] <;> decide
  · rcases hkd with e | e <;> rw [e] <;> decide
  · have := w.N.old k c f hk ec ef (by omega) (by omega)
    exact (fa_lt _ _).mp this
theorem paF_ok {V : mI} (w : Wf V) {v : Nat} {y : Int32} : ∀ k, k ≤ cN V → paOK V (paF V v y k) := by
  intro k
  induction k with
  | zero => intro _ i _; exact Or.inl rfl
  | succ k ih =>
    intro hk i hi
    obtain ⟨c, f, hc, hf, ec, ef, -, ei, e2, -, eb⟩ := paI_ok w (k := k) (by omega)
    rw [paF]
    by_cases hc' : ¬ hdY V k v = (-1) ∧ ¬ y < hdY V k v
    · rw [if_pos hc']
      by_cases e : i = paI V k
      · right
        have : i / 2 = c := by omega
        refine ⟨f, hf, ?_, by omega, by rw [this]; exact eb⟩
        rw [e, upd_same', ef]
      · rw [upd_ne' e]; exact ih (by omega) i hi
    · rw [if_neg hc']; exact ih (by omega) i hi
theorem paA_ok {V : mI} (w : Wf V) (v : Nat) (y : Int32) : paOK V (paA V v y) := paF_ok w _ (Nat.le_refl _)
theorem m1_nI {n : Nat} (h : n < 2 ^ 31) : ¬ (nI n = (-1)) := by
  intro e
  have := congrArg Int32.toInt e
  rw [nI_toInt h] at this
  simp at this
theorem pr_lt {V : mI} {P : Nat → Int32} (hn : cP V ≤ 20) (h : paOK V P) {a b : Nat} (ha : a < 20) (hb : b < 20) (hp : pr P a b) : a < cP V ∧ b < cP V ∧ (V 99 b).toInt < (V 99 a).toInt := by
  have key : ∀ i, i < 40 → i / 2 = a → P i = nI b → a < cP V ∧ b < cP V ∧ (V 99 b).toInt < (V 99 a).toInt := by
    intro i hi e hP
    rcases h i hi with q | ⟨f, h1, h2, h3, h4⟩
    · rw [q] at hP; exact absurd hP.symm (m1_nI (by omega))
    · rw [h2, nI_eq (by omega) (by omega)] at hP
      subst hP
      rw [e] at h3 h4
      exact ⟨h3, h1, h4⟩
  rcases hp with q | q
  · exact key (2 * a) (by omega) (by omega) q
  · exact key (2 * a + 1) (by omega) (by omega) q
theorem pr_R {V : mI} {P : Nat → Int32} (hn : cP V ≤ 20) (h : paOK V P) : ∀ a b, a < 20 → b < 20 → pr P a b → (V 99 b).toInt < (V 99 a).toInt := fun _ _ ha hb hp => (pr_lt hn h ha hb hp).2.2
noncomputable def UA (V : mI) (v : Nat) (y : Int32) (p q : Nat) : Nat := dR (pr (paA V v y)) p q
theorem dR_99 (R : Nat → Nat → Prop) (p q : Nat) : dR R p q < 20 ∨ dR R p q = 99 := by
  rcases dR_spec R p q with ⟨a, -, -⟩ | ⟨a, -⟩
  · exact Or.inl a
  · exact Or.inr a
theorem dR_self (R : Nat → Nat → Prop) (p : Nat) : dR R p p = 0 := dR_of (by omega) rfl (fun m hm => absurd hm (by omega))
theorem pr_cg {P P' : Nat → Int32} (h : ∀ i, i < 40 → P i = P' i) {n p q : Nat} (hp : p < 20) (hr : rc (pr P) n p q) : rc (pr P') n p q := by
  induction n generalizing p with
  | zero => exact hr
  | succ n ih =>
    obtain ⟨f, h1, h2, h3⟩ := hr
    refine ⟨f, h1, ?_, ih h1 h3⟩
    unfold pr at h2 ⊢
    rw [← h _ (by omega), ← h _ (by omega)]
    exact h2
theorem dR_cg {P P' : Nat → Int32} (h : ∀ i, i < 40 → P i = P' i) {p q : Nat} (hp : p < 20) : dR (pr P) p q = dR (pr P') p q := by
  rcases dR_spec (pr P) p q with ⟨a, b, c⟩ | ⟨a, b⟩
  · exact (dR_of a (pr_cg h hp b) (fun m hm q => c m hm (pr_cg (fun i hi => (h i hi).symm) hp q))).symm
  · rw [a]; exact (dR_no (fun m hm q => b m hm (pr_cg (fun i hi => (h i hi).symm) hp q))).symm
/-- the forebear of the fewest steps -/
noncomputable def foF (u w : Nat → Nat) : Nat → Option Nat
  | 0 => none
  | k + 1 => @ite _ (u k < 99 ∧ w k < 99 ∧ (∀ f, foF u w k = some f → u k + w k < u f + w f ∨ (u k + w k = u f + w f ∧ u k < u f))) (Classical.propDecidable _) (some k) (foF u w k)
theorem foF_lt {u w : Nat → Nat} : ∀ {n f : Nat}, foF u w n = some f → f < n ∧ u f < 99 ∧ w f < 99 := by
  intro n
  induction n with
  | zero => intro f h; cases h
  | succ n ih =>
    intro f h
    unfold foF at h
    split at h
    · rename_i hc; cases h; exact ⟨by omega, hc.1, hc.2.1⟩
    · have := ih h; exact ⟨by omega, this.2⟩
theorem foF_y {u w : Nat → Nat} {k : Nat} (h1 : u k < 99) (h2 : w k < 99) (h3 : ∀ f, foF u w k = some f → u k + w k < u f + w f ∨ (u k + w k = u f + w f ∧ u k < u f)) : foF u w (k + 1) = some k := by
  unfold foF
  rw [if_pos ⟨h1, h2, h3⟩]
theorem foF_n {u w : Nat → Nat} {k : Nat} (h : 99 ≤ u k ∨ 99 ≤ w k ∨ ∃ f, foF u w k = some f ∧ ¬ (u k + w k < u f + w f ∨ (u k + w k = u f + w f ∧ u k < u f))) : foF u w (k + 1) = foF u w k := by
  rw [foF, if_neg]
  rintro ⟨h1, h2, h3⟩
  rcases h with h | h | ⟨f, e, h⟩
  · omega
  · omega
  · exact h (h3 f e)
noncomputable def foA (V : mI) (v : Nat) (y : Int32) (a b : Nat) : Option Nat := foF (UA V v y a) (UA V v y b) (cP V)
def oI : Option Nat → Int32
  | none => (-1)
  | some f => nI f
noncomputable def kiA (V : mI) (v : Nat) (y : Int32) (a b : Nat) : Int32 := match foA V v y a b with
  | none => 99
  | some f => nI (UA V v y a f + UA V v y b f)
