/-! texts: the reference takes one -/
def tcA (A : mI) (l : Nat) : Nat := (A 127 l).toNatClampNeg
/-- l lines, k lines of tests, j tests of the next lie in text x -/
def txR (V A : mI) (x l k j : Nat) : mI := fun a i =>
  if a = 117 ∨ a = 118 ∨ a = 119 then (if 16 * x ≤ i ∧ i < 16 * x + l then A (a + 10) (i - 16 * x) else V a i)
  else if a = 120 ∨ a = 121 ∨ a = 122 then (if 64 * x ≤ i ∧ (((i - 64 * x) / 4 < k ∧ (i - 64 * x) % 4 < tcA A ((i - 64 * x) / 4)) ∨ ((i - 64 * x) / 4 = k ∧ (i - 64 * x) % 4 < j)) then A (a + 10) (i - 64 * x) else V a i)
  else V a i
theorem txR_r {V A : mI} {x l k j i a : Nat} (h : a = 117 ∨ a = 118 ∨ a = 119) : txR V A x l k j a i = if 16 * x ≤ i ∧ i < 16 * x + l then A (a + 10) (i - 16 * x) else V a i := by
  unfold txR; rw [if_pos h]
theorem txR_w {V A : mI} {x l k j i a : Nat} (h : a = 120 ∨ a = 121 ∨ a = 122) : txR V A x l k j a i = if 64 * x ≤ i ∧ (((i - 64 * x) / 4 < k ∧ (i - 64 * x) % 4 < tcA A ((i - 64 * x) / 4)) ∨ ((i - 64 * x) / 4 = k ∧ (i - 64 * x) % 4 < j)) then A (a + 10) (i - 64 * x) else V a i := by
  unfold txR; rw [if_neg (by omega), if_pos h]
theorem txR_o {V A : mI} {x l k j a : Nat} (h : a < 117 ∨ 122 < a) : txR V A x l k j a = V a := by
  funext i; unfold txR; rw [if_neg (by omega), if_neg (by omega)]
theorem txR_0 {V A : mI} {x : Nat} : txR V A x 0 0 0 = V := by
  funext a i
  unfold txR
  split
  · rw [if_neg (by omega)]
  · split
    · rw [if_neg (by omega)]
    · rfl
theorem txR_row {V A : mI} {x l : Nat} : uI (uI (uI (txR V A x l l 0) 117 (16 * x + l) (A 127 l)) 118 (16 * x + l) (A 128 l)) 119 (16 * x + l) (A 129 l) = txR V A x (l + 1) l 0 := by
  funext a i
  rw [uI3 (by decide) (by decide) (by decide)]
  by_cases c : a = 117 ∨ a = 118 ∨ a = 119
  · rw [txR_r c, txR_r c]
    by_cases e : i = 16 * x + l
    · rw [if_pos ⟨c, e⟩, if_pos (show 16 * x ≤ i ∧ i < 16 * x + (l + 1) by omega), e, show 16 * x + l - 16 * x = l by omega]
      rcases c with rfl | rfl | rfl <;> simp
    · rw [if_neg (fun z => e z.2)]
      by_cases c2 : 16 * x ≤ i ∧ i < 16 * x + l
      · rw [if_pos c2, if_pos (by omega)]
      · rw [if_neg c2, if_neg (by omega)]
  · rw [if_neg (fun z => c z.1)]
    unfold txR
    rw [if_neg c, if_neg c]
theorem txR_word {V A : mI} {x l j : Nat} (hj : j < 4) : uI (uI (uI (txR V A x (l + 1) l j) 120 (64 * x + (4 * l + j)) (A 130 (4 * l + j))) 121 (64 * x + (4 * l + j)) (A 131 (4 * l + j))) 122 (64 * x + (4 * l + j)) (A 132 (4 * l + j)) = txR V A x (l + 1) l (j + 1) := by
  funext a i
  rw [uI3 (by decide) (by decide) (by decide)]
  by_cases c : a = 120 ∨ a = 121 ∨ a = 122
  · rw [txR_w c, txR_w c]
    by_cases e : i = 64 * x + (4 * l + j)
    · rw [if_pos ⟨c, e⟩, e, show 64 * x + (4 * l + j) - 64 * x = 4 * l + j by omega, if_pos (show 64 * x ≤ 64 * x + (4 * l + j) ∧ (((4 * l + j) / 4 < l ∧ (4 * l + j) % 4 < tcA A ((4 * l + j) / 4)) ∨ ((4 * l + j) / 4 = l ∧ (4 * l + j) % 4 < j + 1)) by omega)]
      rcases c with rfl | rfl | rfl <;> simp
    · rw [if_neg (fun z => e z.2)]
      by_cases c2 : 64 * x ≤ i ∧ (((i - 64 * x) / 4 < l ∧ (i - 64 * x) % 4 < tcA A ((i - 64 * x) / 4)) ∨ ((i - 64 * x) / 4 = l ∧ (i - 64 * x) % 4 < j))
      · rw [if_pos c2, if_pos (by omega)]
      · rw [if_neg c2, if_neg (by omega)]
  · rw [if_neg (fun z => c z.1)]
    unfold txR
    rw [if_neg c, if_neg c]
theorem txR_next {V A : mI} {x m l : Nat} : txR V A x m l (tcA A l) = txR V A x m (l + 1) 0 := by
  funext a i
  by_cases c : a = 120 ∨ a = 121 ∨ a = 122
  · rw [txR_w c, txR_w c]
    by_cases c2 : 64 * x ≤ i ∧ (((i - 64 * x) / 4 < l ∧ (i - 64 * x) % 4 < tcA A ((i - 64 * x) / 4)) ∨ ((i - 64 * x) / 4 = l ∧ (i - 64 * x) % 4 < tcA A l))
    · rw [if_pos c2, if_pos]
      refine ⟨c2.1, Or.inl ?_⟩
      rcases c2.2 with z | z
      · exact ⟨by omega, z.2⟩
      · rw [z.1]; exact ⟨by omega, z.2⟩
    · rw [if_neg c2, if_neg]
      rintro ⟨z1, z2 | z2⟩
      · apply c2
        refine ⟨z1, ?_⟩
        by_cases e : (i - 64 * x) / 4 = l
        · have := z2.2
          rw [e] at this
          exact Or.inr ⟨e, this⟩
        · exact Or.inl ⟨by omega, z2.2⟩
      · omega
  · unfold txR
    rw [if_neg c, if_neg c]
/-- what a text begins with, and what comes of it -/
def tx0 (A : mI) : PS := ⟨0, 0, 0, 0, A⟩
noncomputable def txF (V A : mI) (x : Nat) : Bool × PS := txS (V 84) (cT V) (cT V + 1) (tx0 A) (bI (¬ nI x < 5))
noncomputable def txZ (V : mI) (f p : Int32) : mI := uI (uI (uI V 85 0 0) 86 0 f) 87 0 p
noncomputable def txG (V A : mI) (x : Nat) : Int32 × mI :=
  if (txF V A x).1 = false then (-1, txZ V 1 (nI (plc (V 84) (cT V) (txF V A x).2.p)))
  else if ¬ (txF V A x).2.lf = 0 then (-1, txZ V (txF V A x).2.lf (txF V A x).2.lp)
  else (nI (txF V A x).2.nl, txR (uI (txZ V 0 (-1)) 116 x (nI (txF V A x).2.nl)) (txF V A x).2.a x (txF V A x).2.nl (txF V A x).2.nl 0)
noncomputable def texN (V A : mI) (x : Int32) : Int32 × mI := cip (inN x 7) (txG V A x.toNatClampNeg) (-2, txZ V 0 (-1))
theorem lf_c {tp : Nat → Int32} {n : Nat} : ∀ {s : PS} {f : Int32}, (s.lf = 0 ∨ s.lf = 2 ∨ s.lf = 3) → f = 2 ∨ f = 3 → ((ltr tp n s f).lf = 0 ∨ (ltr tp n s f).lf = 2 ∨ (ltr tp n s f).lf = 3) := by
  intro s f h hf
  unfold ltr
  by_cases c : s.lf = 0
  · rw [if_pos c]
    exact Or.inr hf
  · rw [if_neg c]; exact h
