/-! texts: tokens -/
/-- which kind of token has such a byte: 1 a word, 2 a number, 3 a sign, 4 none, 5 strange -/
def kb (c : Int32) : Int32 := if c < 97 ∨ 122 < c then (if c < 48 ∨ 57 < c then (if c = 58 ∨ c = 59 ∨ c = 60 ∨ c = 62 ∨ c = 61 then 3 else if c = 32 ∨ c = 10 then 4 else 5) else 2) else 1
def byt (c : Int32) : Prop := -128 ≤ c.toInt ∧ c.toInt ≤ 127
theorem and255 {c : Int32} (h : byt c) : (c &&& 255).toInt = if c.toInt < 0 then c.toInt + 256 else c.toInt := by
  obtain ⟨h1, h2⟩ := h
  have e1 : (c &&& 255).toBitVec.toNat = c.toBitVec.toNat % 256 := by
    rw [Int32.toBitVec_and]
    show (c.toBitVec &&& 255#32).toNat = _
    rw [BitVec.toNat_and]
    show c.toBitVec.toNat &&& (2 ^ 8 - 1) = _
    rw [Nat.and_two_pow_sub_one_eq_mod]
  have e2 : (c &&& 255).toInt = (c &&& 255).toBitVec.toInt := rfl
  have e3 : c.toInt = c.toBitVec.toInt := rfl
  have hl := c.toBitVec.isLt
  rw [BitVec.toInt_eq_toNat_cond] at e2 e3
  rw [e1] at e2
  rw [e2]
  split at e3 <;> split <;> split <;> omega
theorem kb_1 {c : Int32} : kb c = 1 ↔ (¬ c < 97 ∧ ¬ 122 < c) := by
  unfold kb
  by_cases c1 : c < 97 ∨ 122 < c
  · rw [if_pos c1]
    constructor
    · intro e
      by_cases c2 : c < 48 ∨ 57 < c
      · rw [if_pos c2] at e
        by_cases c3 : c = 58 ∨ c = 59 ∨ c = 60 ∨ c = 62 ∨ c = 61
        · rw [if_pos c3] at e; exact absurd e (by decide)
        · rw [if_neg c3] at e
          by_cases c4 : c = 32 ∨ c = 10
          · rw [if_pos c4] at e; exact absurd e (by decide)
          · rw [if_neg c4] at e; exact absurd e (by decide)
      · rw [if_neg c2] at e; exact absurd e (by decide)
    · rintro ⟨h1, h2⟩; exact (c1.elim h1 h2).elim
  · rw [if_neg c1]
    exact ⟨fun _ => ⟨fun e => c1 (Or.inl e), fun e => c1 (Or.inr e)⟩, fun _ => rfl⟩
theorem kb_2 {c : Int32} : kb c = 2 ↔ (¬ c < 48 ∧ ¬ 57 < c) := by
  unfold kb
  by_cases c1 : c < 97 ∨ 122 < c
  · rw [if_pos c1]
    by_cases c2 : c < 48 ∨ 57 < c
    · rw [if_pos c2]
      constructor
      · intro e
        by_cases c3 : c = 58 ∨ c = 59 ∨ c = 60 ∨ c = 62 ∨ c = 61
        · rw [if_pos c3] at e; exact absurd e (by decide)
        · rw [if_neg c3] at e
          by_cases c4 : c = 32 ∨ c = 10
          · rw [if_pos c4] at e; exact absurd e (by decide)
          · rw [if_neg c4] at e; exact absurd e (by decide)
      · rintro ⟨h1, h2⟩; exact (c2.elim h1 h2).elim
    · rw [if_neg c2]
      exact ⟨fun _ => ⟨fun e => c2 (Or.inl e), fun e => c2 (Or.inr e)⟩, fun _ => rfl⟩
  · rw [if_neg c1]
    constructor
    · intro e; exact absurd e (by decide)
    · rintro ⟨h1, h2⟩
      exfalso; apply c1
      rw [fa_lt, fa_lt] at *
      have e97 : (97 : Int32).toInt = 97 := by decide
      have e57 : (57 : Int32).toInt = 57 := by decide
      rw [e57] at h2
      rw [e97]
      exact Or.inl (by omega)
theorem kb_4 {c : Int32} : kb c = 4 ↔ (c = 10 ∨ c = 32) := by
  constructor
  · intro e
    unfold kb at e
    by_cases c1 : c < 97 ∨ 122 < c
    · rw [if_pos c1] at e
      by_cases c2 : c < 48 ∨ 57 < c
      · rw [if_pos c2] at e
        by_cases c3 : c = 58 ∨ c = 59 ∨ c = 60 ∨ c = 62 ∨ c = 61
        · rw [if_pos c3] at e; exact absurd e (by decide)
        · rw [if_neg c3] at e
          by_cases c4 : c = 32 ∨ c = 10
          · exact c4.symm
          · rw [if_neg c4] at e; exact absurd e (by decide)
      · rw [if_neg c2] at e; exact absurd e (by decide)
    · rw [if_neg c1] at e; exact absurd e (by decide)
  · rintro (rfl | rfl) <;> decide
theorem kb_c (c : Int32) : kb c = 1 ∨ kb c = 2 ∨ kb c = 3 ∨ kb c = 4 ∨ kb c = 5 := by
  unfold kb
  split
  · split
    · split
      · exact Or.inr (Or.inr (Or.inl rfl))
      · split
        · exact Or.inr (Or.inr (Or.inr (Or.inl rfl)))
        · exact Or.inr (Or.inr (Or.inr (Or.inr rfl)))
    · exact Or.inr (Or.inl rfl)
  · exact Or.inl rfl
section TK
variable (tp : Nat → Int32) (n : Nat)
def rn (k : Int32) : Nat → Nat → Nat
  | 0, p => p
  | f + 1, p => if p < n ∧ kb (tp p) = k then rn k f (p + 1) else p
def ru (k : Int32) (p : Nat) : Nat := rn tp n k (n - p) p
variable {tp n}
theorem ru_y {k : Int32} {p : Nat} (h : p < n) (hk : kb (tp p) = k) : ru tp n k p = ru tp n k (p + 1) := by
  unfold ru
  rw [show n - p = (n - (p + 1)) + 1 by omega, rn, if_pos ⟨h, hk⟩]
theorem ru_n {k : Int32} {p : Nat} (h : ¬ (p < n ∧ kb (tp p) = k)) : ru tp n k p = p := by
  unfold ru
  cases e : n - p with
  | zero => rfl
  | succ m => rw [rn, if_neg h]
theorem ru_b {k : Int32} : ∀ f p, n - p = f → p ≤ ru tp n k p ∧ (p ≤ n → ru tp n k p ≤ n) ∧ (∀ i, p ≤ i → i < ru tp n k p → i < n ∧ kb (tp i) = k) ∧ ¬ (ru tp n k p < n ∧ kb (tp (ru tp n k p)) = k)
  | 0, p, e => by
    have h : ¬ (p < n ∧ kb (tp p) = k) := fun z => by have := z.1; omega
    rw [ru_n h]
    exact ⟨Nat.le_refl _, fun h => h, fun i h1 h2 => by omega, h⟩
  | f + 1, p, e => by
    by_cases h : p < n ∧ kb (tp p) = k
    · obtain ⟨h1, h2, h3, h4⟩ := ru_b f (p + 1) (by omega)
      rw [ru_y h.1 h.2]
      refine ⟨by omega, fun _ => h2 (by omega), fun i g1 g2 => ?_, h4⟩
      by_cases e : i = p
      · rw [e]; exact h
      · exact h3 i (by omega) g2
    · rw [ru_n h]
      exact ⟨Nat.le_refl _, fun h => h, fun i h1 h2 => by omega, h⟩
theorem ru_ge {k : Int32} {p : Nat} : p ≤ ru tp n k p := (ru_b _ p rfl).1
theorem ru_le {k : Int32} {p : Nat} (h : p ≤ n) : ru tp n k p ≤ n := (ru_b _ p rfl).2.1 h
theorem ru_in {k : Int32} {p i : Nat} (h1 : p ≤ i) (h2 : i < ru tp n k p) : i < n ∧ kb (tp i) = k := (ru_b _ p rfl).2.2.1 i h1 h2
theorem ru_end {k : Int32} {p : Nat} : ¬ (ru tp n k p < n ∧ kb (tp (ru tp n k p)) = k) := (ru_b _ p rfl).2.2.2
variable (tp n)
/-- the token behind place p: where it begins, where it ends, its kind, its worth -/
def plc (p : Nat) : Nat := ru tp n 4 p
def kn0 (p : Nat) : Int32 := if plc tp n p < n then kb (tp (plc tp n p)) else 0
def nxt (p : Nat) : Nat := if plc tp n p < n then (if kn0 tp n p = 1 ∨ kn0 tp n p = 2 then ru tp n (kn0 tp n p) (plc tp n p + 1) else plc tp n p + 1) else plc tp n p
def knd (p : Nat) : Int32 := if kn0 tp n p = 2 ∧ 4 < nxt tp n p - plc tp n p then 5 else kn0 tp n p
def wr (b : Nat) : Nat → Int32
  | 0 => 0
  | k + 1 => wr b k * 10 + (tp (b + k) - 48)
def wor (p : Nat) : Int32 := wr tp (plc tp n p) (nxt tp n p - plc tp n p)
def wdB (p k : Nat) : Bool := decide (knd tp n p = 1) && decide (nxt tp n p - plc tp n p = sLen.getD k 0) && (List.range (sLen.getD k 0)).all fun i => decide (tp (plc tp n p + i) = (sByt.getD k []).getD i 0)
variable {tp n}
theorem wdB_iff {p k : Nat} : wdB tp n p k = true ↔ knd tp n p = 1 ∧ nxt tp n p - plc tp n p = sLen.getD k 0 ∧ ∀ i, i < sLen.getD k 0 → tp (plc tp n p + i) = (sByt.getD k []).getD i 0 := by
  unfold wdB
  simp [and_assoc]
theorem plc_ge {p : Nat} : p ≤ plc tp n p := ru_ge
theorem plc_le {p : Nat} (h : p ≤ n) : plc tp n p ≤ n := ru_le h
theorem nxt_ge {p : Nat} : plc tp n p ≤ nxt tp n p := by
  unfold nxt
  split
  · split
    · have := ru_ge (tp := tp) (n := n) (k := kn0 tp n p) (p := plc tp n p + 1); omega
    · omega
  · omega
theorem nxt_gt {p : Nat} (h : plc tp n p < n) : plc tp n p < nxt tp n p := by
  unfold nxt
  rw [if_pos h]
  split
  · have := ru_ge (tp := tp) (n := n) (k := kn0 tp n p) (p := plc tp n p + 1); omega
  · omega
theorem nxt_le {p : Nat} (h : p ≤ n) : nxt tp n p ≤ n := by
  have h1 := plc_le (tp := tp) h
  unfold nxt
  split
  · split
    · exact ru_le (by omega)
    · omega
  · omega
theorem kn_0 {p : Nat} : knd tp n p = 0 ↔ ¬ plc tp n p < n := by
  unfold knd kn0
  constructor
  · intro e h
    rw [if_pos h] at e
    have := kb_c (tp (plc tp n p))
    split at e
    · exact absurd e (by decide)
    · rw [e] at this; revert this; decide
  · intro h
    rw [if_neg h, if_neg (fun e => absurd e.1 (by decide))]
/-- a token that is not the end has a byte -/
theorem nxt_mv {p : Nat} (h : ¬ knd tp n p = 0) : p < nxt tp n p := by
  rw [kn_0, Classical.not_not] at h
  have := plc_ge (tp := tp) (n := n) (p := p)
  have := nxt_gt h
  omega
theorem kn_1 {p : Nat} (h : knd tp n p = 1) : plc tp n p < n ∧ nxt tp n p = ru tp n 1 (plc tp n p + 1) ∧ kb (tp (plc tp n p)) = 1 ∧ ∀ i, plc tp n p ≤ i → i < nxt tp n p → i < n ∧ kb (tp i) = 1 := by
  have hp : plc tp n p < n := by
    apply Classical.byContradiction; intro z
    rw [kn_0.mpr z] at h; exact absurd h (by decide)
  have h0 : kn0 tp n p = 1 := by
    unfold knd at h
    split at h
    · exact absurd h (by decide)
    · exact h
  have hb : kb (tp (plc tp n p)) = 1 := by unfold kn0 at h0; rw [if_pos hp] at h0; exact h0
  have hn : nxt tp n p = ru tp n 1 (plc tp n p + 1) := by unfold nxt; rw [if_pos hp, h0, if_pos (Or.inl rfl)]
  refine ⟨hp, hn, hb, fun i g1 g2 => ?_⟩
  by_cases e : i = plc tp n p
  · rw [e]; exact ⟨hp, hb⟩
  · rw [hn] at g2; exact ru_in (by omega) g2
theorem kn_2 {p : Nat} (h : knd tp n p = 2) : plc tp n p < n ∧ nxt tp n p - plc tp n p ≤ 4 ∧ ∀ i, plc tp n p ≤ i → i < nxt tp n p → i < n ∧ kb (tp i) = 2 := by
  have hp : plc tp n p < n := by
    apply Classical.byContradiction; intro z
    rw [kn_0.mpr z] at h; exact absurd h (by decide)
  unfold knd at h
  by_cases c : kn0 tp n p = 2 ∧ 4 < nxt tp n p - plc tp n p
  · rw [if_pos c] at h; exact absurd h (by decide)
  · rw [if_neg c] at h
    have hb : kb (tp (plc tp n p)) = 2 := by unfold kn0 at h; rw [if_pos hp] at h; exact h
    have hn : nxt tp n p = ru tp n 2 (plc tp n p + 1) := by unfold nxt; rw [if_pos hp, h, if_pos (Or.inr rfl)]
    refine ⟨hp, Nat.not_lt.mp fun z => c ⟨h, z⟩, fun i g1 g2 => ?_⟩
    by_cases e : i = plc tp n p
    · rw [e]; exact ⟨hp, hb⟩
    · rw [hn] at g2; exact ru_in (by omega) g2
theorem dig {c : Int32} (h : kb c = 2) : ∃ d, d < 10 ∧ c = nI (48 + d) := by
  rw [kb_2, fa_lt, fa_lt] at h
  have e48 : (48 : Int32).toInt = 48 := by decide
  have e57 : (57 : Int32).toInt = 57 := by decide
  rw [e48, e57] at h
  refine ⟨c.toInt.toNat - 48, by omega, ?_⟩
  rw [fa_eq, nI_toInt (by omega)]
  omega
theorem wr_in {b : Nat} : ∀ {k : Nat}, k ≤ 4 → (∀ i, i < k → kb (tp (b + i)) = 2) → inN (wr tp b k) (10 ^ k)
  | 0, _, _ => ⟨0, by decide, rfl⟩
  | k + 1, hk, h => by
    obtain ⟨v, h1, h2⟩ := wr_in (b := b) (k := k) (by omega) (fun i hi => h i (by omega))
    obtain ⟨d, d1, d2⟩ := dig (h k (by omega))
    have hp : 10 ^ k ≤ 1000 := by
      have : 10 ^ k ≤ 10 ^ 3 := Nat.pow_le_pow_right (by decide) (by omega)
      omega
    refine ⟨v * 10 + d, by rw [Nat.pow_succ]; omega, ?_⟩
    have e48 : nI (48 + d) - 48 = nI d := by
      rw [show (48 : Int32) = nI 48 from rfl, fa_eq, Int32.toInt_sub, nI_toInt (by omega), nI_toInt (by omega), nI_toInt (by omega)]
      rw [show ((48 + d : Nat) : Int) - ((48 : Nat) : Int) = (d : Int) by omega]
      exact Int.bmod_eq_of_le (by omega) (by omega)
    rw [wr, h2, d2, e48, show (10 : Int32) = nI 10 from rfl, pk_mul, nI_add]
theorem wor_in {p : Nat} (h : knd tp n p = 2) : inN (wor tp n p) 10000 := by
  obtain ⟨h1, h2, h3⟩ := kn_2 h
  unfold wor
  obtain ⟨v, g1, g2⟩ := wr_in (tp := tp) (b := plc tp n p) (k := nxt tp n p - plc tp n p) h2 (fun i hi => (h3 _ (by omega) (by omega)).2)
  have : 10 ^ (nxt tp n p - plc tp n p) ≤ 10 ^ 4 := Nat.pow_le_pow_right (by decide) h2
  exact ⟨v, by omega, g2⟩
end TK
