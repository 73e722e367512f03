/-! shortest ways: walks of five villages -/
def eW (r : Nat → Int32) (a b : Nat) : Nat := (r (5 * a + b)).toNatClampNeg
def eD' (r : Nat → Int32) (a b : Nat) : Prop := ¬ a = b ∧ ¬ r (5 * a + b) = (-1)
def wkO (r : Nat → Int32) : Nat → List Nat → Prop
  | _, [] => True
  | v, x :: l => x < 5 ∧ eD' r v x ∧ wkO r x l
def wkL (r : Nat → Int32) : Nat → List Nat → Nat
  | _, [] => 0
  | v, x :: l => eW r v x + wkL r x l
def wkE : Nat → List Nat → Nat
  | v, [] => v
  | _, x :: l => wkE x l
theorem wkE_app (l1 l2 : List Nat) : ∀ v, wkE v (l1 ++ l2) = wkE (wkE v l1) l2 := by
  induction l1 with
  | nil => intro v; rfl
  | cons x l ih => intro v; exact ih x
theorem wkL_app (r : Nat → Int32) (l1 l2 : List Nat) : ∀ v, wkL r v (l1 ++ l2) = wkL r v l1 + wkL r (wkE v l1) l2 := by
  induction l1 with
  | nil => intro v; simp [wkL, wkE]
  | cons x l ih => intro v; simp only [List.cons_append, wkL, wkE]; rw [ih x]; omega
theorem wkO_app (r : Nat → Int32) (l1 l2 : List Nat) : ∀ v, wkO r v (l1 ++ l2) ↔ wkO r v l1 ∧ wkO r (wkE v l1) l2 := by
  induction l1 with
  | nil => intro v; simp [wkO, wkE]
  | cons x l ih => intro v; simp only [List.cons_append, wkO, wkE]; rw [ih x]; constructor
                   · rintro ⟨a, b, c, d⟩; exact ⟨⟨a, b, c⟩, d⟩
                   · rintro ⟨⟨a, b, c⟩, d⟩; exact ⟨a, b, c, d⟩
theorem wkE_lt (r : Nat → Int32) : ∀ (l : List Nat) (v : Nat), v < 5 → wkO r v l → wkE v l < 5 := by
  intro l
  induction l with
  | nil => intro v hv _; exact hv
  | cons x l ih => intro v _ h; exact ih x h.1 h.2.2
/-- a walk of five steps or more has a shorter one -/
theorem wk_short (r : Nat → Int32) : ∀ (n : Nat) (l : List Nat) (v : Nat), l.length ≤ n → v < 5 → wkO r v l → ∃ l', wkO r v l' ∧ wkE v l' = wkE v l ∧ wkL r v l' ≤ wkL r v l ∧ l'.length ≤ 4 := by
  intro n
  induction n with
  | zero => intro l v hl hv h; exact ⟨l, h, rfl, Nat.le_refl _, by omega⟩
  | succ n ih =>
    intro l v hl hv h
    by_cases h4 : l.length ≤ 4
    · exact ⟨l, h, rfl, Nat.le_refl _, h4⟩
    · obtain ⟨i, j, hij, hj, he⟩ := fb_twice (m := 5) (n := l.length + 1) (f := fun i => wkE v (l.take i)) (fun i hi => by
        have h1 : wkO r v (l.take i ++ l.drop i) := by rw [List.take_append_drop]; exact h
        exact wkE_lt r _ v hv ((wkO_app r _ _ v).mp h1).1) (by omega)
      have he : wkE v (l.take i) = wkE v (l.take j) := he
      have hi : wkO r v (l.take i) := ((wkO_app r (l.take i) (l.drop i) v).mp (by rw [List.take_append_drop]; exact h)).1
      have hjj := (wkO_app r (l.take j) (l.drop j) v).mp (by rw [List.take_append_drop]; exact h)
      have hlj : wkL r v l = wkL r v (l.take j) + wkL r (wkE v (l.take j)) (l.drop j) := by
        have := wkL_app r (l.take j) (l.drop j) v
        rwa [List.take_append_drop] at this
      have hli : wkL r v (l.take i) ≤ wkL r v (l.take j) := by
        have h1 : l.take j = l.take i ++ (l.take j).drop i := by
          have := (List.take_append_drop i (l.take j)).symm
          rwa [List.take_take, Nat.min_eq_left (Nat.le_of_lt hij)] at this
        rw [h1, wkL_app]
        omega
      have hee : wkE v l = wkE (wkE v (l.take j)) (l.drop j) := by
        have := wkE_app (l.take j) (l.drop j) v
        rwa [List.take_append_drop] at this
      obtain ⟨l', a1, a2, a3, a4⟩ := ih (l.take i ++ l.drop j) v (by simp [List.length_append, List.length_take, List.length_drop]; omega) hv ((wkO_app r _ _ v).mpr ⟨hi, by rw [he]; exact hjj.2⟩)
      refine ⟨l', a1, ?_, ?_, a4⟩
      · rw [a2, wkE_app, he, ← hee]
      · rw [wkL_app, he] at a3
        omega
/-- numbers of a relaxation: what has been reached is a walk's length -/
def bfI (r : Nat → Int32) (v : Nat) (t : Nat → Int32) : Prop := t v = 0 ∧ ∀ i, i < 5 → ∃ n, t i = nI n ∧ n ≤ 1000 ∧ (n < 1000 → ∃ l, wkO r v l ∧ wkE v l = i ∧ wkL r v l = n)
def rOK (r : Nat → Int32) : Prop := ∀ a b, a < 5 → b < 5 → r (5 * a + b) = (-1) ∨ inN (r (5 * a + b)) 10
theorem eW_of {r : Nat → Int32} (hr : rOK r) {a b : Nat} (ha : a < 5) (hb : b < 5) (h : ¬ r (5 * a + b) = (-1)) : r (5 * a + b) = nI (eW r a b) ∧ eW r a b < 10 := by
  rcases hr a b ha hb with h1 | ⟨j, hj, e⟩
  · exact absurd h1 h
  · unfold eW; rw [e, nI_clamp (by omega)]; exact ⟨rfl, hj⟩
theorem upd_same' {f : Nat → Int32} {k : Nat} {x : Int32} : upd f k x k = x := by simp [upd]
theorem upd_ne' {f : Nat → Int32} {k j : Nat} {x : Int32} (h : j ≠ k) : upd f k x j = f j := by simp [upd, h]
theorem bf0 (r : Nat → Int32) {v : Nat} : bfI r v (tk0 v) := by
  refine ⟨by simp [tk0], fun i hi => ?_⟩
  unfold tk0
  split
  · rename_i e; exact ⟨0, rfl, by omega, fun _ => ⟨[], trivial, e.symm, rfl⟩⟩
  · exact ⟨1000, rfl, by omega, fun h => absurd h (by omega)⟩
/-- one edge: the invariant stays, nothing grows, the edge is served -/
theorem rlx_ok {r : Nat → Int32} (hr : rOK r) {v a b : Nat} {t : Nat → Int32} (h : bfI r v t) (ha : a < 5) (hb : b < 5) (hv : v < 5) :
    bfI r v (rlx r a b t) ∧ (∀ i, i < 5 → (rlx r a b t i).toInt ≤ (t i).toInt) ∧ (eD' r a b → (rlx r a b t b).toInt ≤ (t a).toInt + eW r a b) := by
  obtain ⟨h0, h1⟩ := h
  obtain ⟨na, ea, la, wa⟩ := h1 a ha
  obtain ⟨nb, eb, lb, wb⟩ := h1 b hb
  by_cases hc : ¬ a = b ∧ ¬ r (5 * a + b) = (-1) ∧ ¬ t b ≤ t a + r (5 * a + b)
  · obtain ⟨c1, c2, c3⟩ := hc
    obtain ⟨ew, lw⟩ := eW_of hr ha hb c2
    have e : rlx r a b t = upd t b (nI (na + eW r a b)) := by
      unfold rlx
      rw [if_pos ⟨c1, c2, c3⟩, ea, ew, nI_add]
    have hlt : na + eW r a b < nb := by
      rw [ea, eb, ew, nI_add, nI_leI (by omega) (by omega)] at c3
      omega
    have hbv : b ≠ v := by
      intro q
      rw [q, h0] at eb
      have : nI 0 = nI nb := eb
      rw [nI_eq (by omega) (by omega)] at this
      omega
    rw [e]
    refine ⟨⟨by rw [upd_ne' (Ne.symm hbv)]; exact h0, fun i hi => ?_⟩, fun i hi => ?_, fun _ => ?_⟩
    · by_cases hib : i = b
      · subst hib
        refine ⟨_, upd_same', by omega, fun _ => ?_⟩
        obtain ⟨l, l1, l2, l3⟩ := wa (by omega)
        refine ⟨l ++ [i], (wkO_app r _ _ v).mpr ⟨l1, ?_⟩, by rw [wkE_app]; rfl, by rw [wkL_app, l3, l2]; rfl⟩
        rw [l2]
        exact ⟨hi, ⟨c1, c2⟩, trivial⟩
      · rw [upd_ne' hib]; exact h1 i hi
    · by_cases hib : i = b
      · subst hib
        rw [upd_same', eb, nI_toInt (by omega), nI_toInt (by omega)]
        omega
      · rw [upd_ne' hib]; exact Int.le_refl _
    · rw [upd_same', ea, nI_toInt (by omega), nI_toInt (by omega)]
      omega
  · have e : rlx r a b t = t := by
      unfold rlx
      rw [if_neg hc]
      exact fa_upd_same rfl
    rw [e]
    refine ⟨⟨h0, h1⟩, fun i _ => Int.le_refl _, fun hd => ?_⟩
    obtain ⟨ew, lw⟩ := eW_of hr ha hb hd.2
    have hle : t b ≤ t a + r (5 * a + b) := Classical.byContradiction fun q => hc ⟨hd.1, hd.2, q⟩
    rw [ea, eb, ew, nI_add, nI_leI (by omega) (by omega)] at hle
    rw [ea, eb, nI_toInt (by omega), nI_toInt (by omega)]
    omega
theorem tkB_ok {r : Nat → Int32} (hr : rOK r) {v a : Nat} {t : Nat → Int32} (h : bfI r v t) (ha : a < 5) (hv : v < 5) : ∀ b, b ≤ 5 →
    bfI r v (tkB r a b t) ∧ (∀ i, i < 5 → (tkB r a b t i).toInt ≤ (t i).toInt) ∧ (∀ i, i < b → eD' r a i → (tkB r a b t i).toInt ≤ (t a).toInt + eW r a i) := by
  intro b
  induction b with
  | zero => intro _; exact ⟨h, fun i _ => Int.le_refl _, fun i hi => absurd hi (by omega)⟩
  | succ b ih =>
    intro hb
    obtain ⟨i1, i2, i3⟩ := ih (by omega)
    obtain ⟨j1, j2, j3⟩ := rlx_ok hr (b := b) i1 ha (by omega) hv
    refine ⟨j1, fun i hi => Int.le_trans (j2 i hi) (i2 i hi), fun i hi he => ?_⟩
    by_cases hib : i = b
    · subst hib
      have := j3 he
      have := i2 a ha
      show (rlx r a i (tkB r a i t) i).toInt ≤ _
      omega
    · exact Int.le_trans (j2 i (by omega)) (i3 i (by omega) he)
theorem tkA_ok {r : Nat → Int32} (hr : rOK r) {v : Nat} {t : Nat → Int32} (h : bfI r v t) (hv : v < 5) : ∀ a, a ≤ 5 →
    bfI r v (tkA r a t) ∧ (∀ i, i < 5 → (tkA r a t i).toInt ≤ (t i).toInt) ∧ (∀ a', a' < a → ∀ i, i < 5 → eD' r a' i → (tkA r a t i).toInt ≤ (t a').toInt + eW r a' i) := by
  intro a
  induction a with
  | zero => intro _; exact ⟨h, fun i _ => Int.le_refl _, fun i hi => absurd hi (by omega)⟩
  | succ a ih =>
    intro ha
    obtain ⟨i1, i2, i3⟩ := ih (by omega)
    obtain ⟨j1, j2, j3⟩ := tkB_ok hr (a := a) i1 (by omega) hv 5 (by omega)
    refine ⟨j1, fun i hi => Int.le_trans (j2 i hi) (i2 i hi), fun a' ha' i hi he => ?_⟩
    by_cases hia : a' = a
    · subst hia
      have := j3 i hi he
      have := i2 a' (by omega)
      show (tkB r a' 5 (tkA r a' t) i).toInt ≤ _
      omega
    · exact Int.le_trans (j2 i (by omega)) (i3 a' (by omega) i hi he)
theorem tkR_ok {r : Nat → Int32} (hr : rOK r) {v : Nat} (hv : v < 5) : ∀ k, bfI r v (tkR r k (tk0 v)) ∧ ∀ l, wkO r v l → l.length ≤ k → (tkR r k (tk0 v) (wkE v l)).toInt ≤ wkL r v l := by
  intro k
  induction k with
  | zero =>
    refine ⟨bf0 r, fun l h hl => ?_⟩
    have : l = [] := List.length_eq_zero_iff.mp (by omega)
    subst this
    show (tk0 v v).toInt ≤ _
    simp [tk0, wkL]
  | succ k ih =>
    obtain ⟨i1, i2⟩ := ih
    obtain ⟨j1, j2, j3⟩ := tkA_ok hr i1 hv 5 (by omega)
    refine ⟨j1, fun l h hl => ?_⟩
    by_cases hk : l.length ≤ k
    · exact Int.le_trans (j2 _ (wkE_lt r l v hv h)) (i2 l h hk)
    · obtain ⟨l', x, rfl⟩ : ∃ l' x, l = l' ++ [x] := by
        rcases List.eq_nil_or_concat l with e | ⟨l', x, e⟩
        · subst e; simp at hk
        · exact ⟨l', x, by simpa using e⟩
      obtain ⟨w1, w2⟩ := (wkO_app r _ _ v).mp h
      have h1 := i2 l' w1 (by simp at hl; omega)
      have h2 := j3 (wkE v l') (wkE_lt r l' v hv w1) x w2.1 w2.2.1
      rw [wkE_app, wkL_app]
      show (tkA r 5 (tkR r k (tk0 v)) x).toInt ≤ _
      have : wkL r (wkE v l') [x] = eW r (wkE v l') x := rfl
      rw [this]
      omega
/-- the numbers of the reference: each a shortest walk's length, or 1000 -/
theorem tkS_ok {V : mI} (hr : rOK (V 89)) {v i : Nat} (hv : v < 5) (hi : i < 5) : ∃ n, tkS V v i = nI n ∧ n ≤ 1000 ∧ (n < 1000 → ∃ l, wkO (V 89) v l ∧ wkE v l = i ∧ wkL (V 89) v l = n) ∧ ∀ l, wkO (V 89) v l → wkE v l = i → n ≤ wkL (V 89) v l := by
  obtain ⟨h1, h2⟩ := tkR_ok hr hv 5
  obtain ⟨n, e, hn, hw⟩ := h1.2 i hi
  refine ⟨n, e, hn, hw, fun l hl he => ?_⟩
  obtain ⟨l', a1, a2, a3, a4⟩ := wk_short (V 89) _ l v (Nat.le_refl _) hv hl
  have := h2 l' a1 (by omega)
  rw [a2, he, e, nI_toInt (by omega)] at this
  omega
