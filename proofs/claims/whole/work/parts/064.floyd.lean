/-! the component's ways: one village after the other between -/
def rp (n : Nat) : Int32 := if n = 1000000 then (-1) else nI n
def fwD (D : Nat → Nat → Nat) (k : Nat) : Nat → Nat → Nat := fun a b => min (D a b) (D a k + D k b)
def fwI (r : Nat → Int32) (D : Nat → Nat → Nat) (k : Nat) : Prop :=
  (∀ a b, a < 5 → b < 5 → D a b = 1000000 ∨ D a b ≤ 10 * 2 ^ k) ∧ (∀ a, a < 5 → D a a = 0) ∧ (∀ a b, a < 5 → b < 5 → eD' r a b → D a b ≤ eW r a b) ∧
  (∀ a b, a < 5 → b < 5 → D a b < 1000000 → ∃ l, wkO r b l ∧ wkE b l = a ∧ wkL r b l = D a b) ∧ (∀ j a b, j < k → a < 5 → b < 5 → D a b ≤ D a j + D j b)
theorem fw_step {r : Nat → Int32} {D : Nat → Nat → Nat} {k : Nat} (hk : k < 5) (h : fwI r D k) : fwI r (fwD D k) (k + 1) := by
  obtain ⟨h1, h2, h3, h4, h5⟩ := h
  have p5 : 2 ^ k ≤ 16 := by
    have : k = 0 ∨ k = 1 ∨ k = 2 ∨ k = 3 ∨ k = 4 := by omega
    rcases this with rfl | rfl | rfl | rfl | rfl <;> decide
  have ps : 2 ^ (k + 1) = 2 * 2 ^ k := by rw [Nat.pow_succ]; omega
  refine ⟨fun a b ha hb => ?_, fun a ha => ?_, fun a b ha hb he => ?_, fun a b ha hb hl => ?_, fun j a b hj ha hb => ?_⟩
  · have q1 := h1 a b ha hb
    have q2 := h1 a k ha hk
    have q3 := h1 k b hk hb
    unfold fwD
    rw [ps]
    omega
  · unfold fwD
    have := h2 a ha
    omega
  · unfold fwD
    have := h3 a b ha hb he
    omega
  · unfold fwD at hl ⊢
    by_cases hc : D a b ≤ D a k + D k b
    · rw [Nat.min_eq_left hc] at hl ⊢
      exact h4 a b ha hb hl
    · rw [Nat.min_eq_right (by omega)] at hl ⊢
      obtain ⟨l1, a1, a2, a3⟩ := h4 a k ha hk (by omega)
      obtain ⟨l2, b1, b2, b3⟩ := h4 k b hk hb (by omega)
      refine ⟨l2 ++ l1, (wkO_app r _ _ b).mpr ⟨b1, by rw [b2]; exact a1⟩, by rw [wkE_app, b2]; exact a2, by rw [wkL_app, b2, b3, a3]; omega⟩
  · unfold fwD
    have kk := h2 k hk
    by_cases hjk : j = k
    · subst hjk
      rw [kk]
      omega
    · have hj' : j < k := by omega
      have t1 := h5 j a b hj' ha hb
      have t2 := h5 j k b hj' hk hb
      have t3 := h5 j a k hj' ha hk
      have t4 := h5 j k k hj' hk hk
      omega
def fwN (D : Nat → Nat → Nat) : Nat → Nat → Nat → Nat
  | 0 => D
  | k + 1 => fwD (fwN D k) k
theorem fw_all {r : Nat → Int32} {D : Nat → Nat → Nat} (h : fwI r D 0) : ∀ k, k ≤ 5 → fwI r (fwN D k) k := by
  intro k
  induction k with
  | zero => intro _; exact h
  | succ k ih => intro hk; exact fw_step (by omega) (ih (by omega))
theorem fw_comp {r : Nat → Int32} {D : Nat → Nat → Nat} (hs : ∀ a b, a < 5 → b < 5 → r (5 * a + b) = r (5 * b + a)) (h : fwI r D 5) : ∀ (l : List Nat) (v : Nat), v < 5 → wkO r v l → D (wkE v l) v ≤ wkL r v l := by
  intro l
  induction l with
  | nil => intro v hv _; show D v v ≤ 0; rw [h.2.1 v hv]; omega
  | cons x l ih =>
    intro v hv hw
    have h1 := ih x hw.1 hw.2.2
    have h2 := h.2.2.1 x v hw.1 hv ⟨fun e => hw.2.1.1 e.symm, by rw [hs x v hw.1 hv]; exact hw.2.1.2⟩
    have h3 := h.2.2.2.2 x (wkE x l) v hw.1 (wkE_lt r l x hw.1 hw.2.2) hv
    have h4 : eW r x v = eW r v x := by unfold eW; rw [hs x v hw.1 hv]
    show D (wkE x l) v ≤ eW r v x + wkL r x l
    omega
theorem fw_end {V : mI} {D : Nat → Nat → Nat} (hr : rOK (V 89)) (hs : ∀ a b, a < 5 → b < 5 → V 89 (5 * a + b) = V 89 (5 * b + a)) (h : fwI (V 89) D 5) {a v : Nat} (ha : a < 5) (hv : v < 5) : rp (D a v) = wyA V a v := by
  obtain ⟨n, e, hn, hw, hm⟩ := tkS_ok hr hv ha
  unfold wyA
  rw [e]
  have lit : (1000 : Int32) = nI 1000 := rfl
  rw [lit]
  have hb := h.1 a v ha hv
  by_cases hlt : n < 1000
  · rw [if_neg (by rw [nI_leI (by omega) (by omega)]; omega)]
    obtain ⟨l, w1, w2, w3⟩ := hw hlt
    have q := fw_comp hs h l v hv w1
    rw [w2, w3] at q
    obtain ⟨l', x1, x2, x3⟩ := h.2.2.2.1 a v ha hv (by omega)
    have := hm l' x1 x2
    rw [x3] at this
    have : D a v = n := by omega
    unfold rp
    rw [this, if_neg (by omega)]
  · rw [if_pos (by rw [nI_leI (by omega) (by omega)]; omega)]
    have : D a v = 1000000 := by
      rcases hb with q | q
      · exact q
      · exfalso
        obtain ⟨l', x1, x2, x3⟩ := h.2.2.2.1 a v ha hv (by omega)
        have := hm l' x1 x2
        omega
    unfold rp
    rw [this, if_pos rfl]
