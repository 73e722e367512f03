/-! the best pairing: one table of worths by two scales -/
noncomputable def rowF (al : Nat → Nat → Prop) (v : Nat → Nat → Int) (nx : Nat → Int) (i t : Nat) : Nat → Int
  | 0 => nx t
  | j + 1 => cif (al i j ∧ t.testBit j = false ∧ rowF al v nx i t j < v i j + nx (t ||| 2 ^ j)) (v i j + nx (t ||| 2 ^ j)) (rowF al v nx i t j)
noncomputable def dpF (al : Nat → Nat → Prop) (v : Nat → Nat → Int) (nb ng : Nat) : Nat → Nat → Int
  | 0 => fun _ => 0
  | k + 1 => fun t => rowF al v (dpF al v nb ng k) (nb - (k + 1)) t ng
def T3 (x y : Int) (B : Nat) : Prop := ∃ w f g : Nat, w ≤ B ∧ f ≤ w ∧ g ≤ 159984 * w ∧ x = 100000000000 * w + 1000000000 * f - g ∧ y = 20000000 * w + 2000000 * f - g
theorem T3_lt {x y x' y' : Int} {B B' : Nat} (h : T3 x y B) (h' : T3 x' y' B') (hB : B ≤ 8) (hB' : B' ≤ 8) : (x < x' ↔ y < y') ∧ (x = x' ↔ y = y') := by
  obtain ⟨w, f, g, h1, h2, h3, rfl, rfl⟩ := h
  obtain ⟨w', f', g', h1', h2', h3', rfl, rfl⟩ := h'
  rcases Nat.lt_trichotomy w w' with hw | hw | hw
  · constructor <;> constructor <;> intro <;> omega
  · subst hw
    rcases Nat.lt_trichotomy f f' with hf | hf | hf
    · constructor <;> constructor <;> intro <;> omega
    · constructor <;> constructor <;> intro <;> omega
    · constructor <;> constructor <;> intro <;> omega
  · constructor <;> constructor <;> intro <;> omega
theorem T3_b {x y : Int} {B : Nat} (h : T3 x y B) (hB : B ≤ 8) : 0 ≤ x ∧ x ≤ 808000000000 ∧ 0 ≤ y ∧ y ≤ 176000000 := by
  obtain ⟨w, f, g, h1, h2, h3, rfl, rfl⟩ := h
  omega
theorem T3_up {x y : Int} {B B' : Nat} (h : T3 x y B) (hB : B ≤ B') : T3 x y B' := by
  obtain ⟨w, f, g, h1, h2⟩ := h
  exact ⟨w, f, g, by omega, h2⟩
theorem T3_add {x y : Int} {B G : Nat} {F : Bool} (h : T3 x y B) (hG : G ≤ 159984) : T3 ((100000000000 + (if F then 1000000000 else 0) - G) + x) ((20000000 + (if F then 2000000 else 0) - G) + y) (B + 1) := by
  obtain ⟨w, f, g, h1, h2, h3, rfl, rfl⟩ := h
  cases F
  · exact ⟨w + 1, f, g + G, by omega, by omega, by omega, by simp; omega, by simp; omega⟩
  · exact ⟨w + 1, f + 1, g + G, by omega, by omega, by omega, by simp; omega, by simp; omega⟩
section DP
variable {al : Nat → Nat → Prop} {vM vC : Nat → Nat → Int} {nb ng : Nat}
def vOK (vM vC : Nat → Nat → Int) : Prop := ∀ i j, ∃ (G : Nat) (F : Bool), G ≤ 159984 ∧ vM i j = 100000000000 + (if F then 1000000000 else 0) - G ∧ vC i j = 20000000 + (if F then 2000000 else 0) - G
theorem row_rel (hv : vOK vM vC) {nM nC : Nat → Int} {B : Nat} (hB : B < 8) (hn : ∀ t, T3 (nM t) (nC t) B) (i t : Nat) : ∀ j, T3 (rowF al vM nM i t j) (rowF al vC nC i t j) (B + 1) := by
  intro j
  induction j with
  | zero => exact T3_up (hn t) (by omega)
  | succ j ih =>
    obtain ⟨G, F, hG, e1, e2⟩ := hv i j
    have hc : T3 (vM i j + nM (t ||| 2 ^ j)) (vC i j + nC (t ||| 2 ^ j)) (B + 1) := by rw [e1, e2]; exact T3_add (hn _) hG
    have hl := (T3_lt ih hc (by omega) (by omega)).1
    rw [rowF, rowF]
    by_cases c : al i j ∧ t.testBit j = false ∧ rowF al vM nM i t j < vM i j + nM (t ||| 2 ^ j)
    · rw [cif_t c, cif_t ⟨c.1, c.2.1, hl.mp c.2.2⟩]; exact hc
    · rw [cif_f c, cif_f (fun e => c ⟨e.1, e.2.1, hl.mpr e.2.2⟩)]; exact ih
theorem dp_rel (hv : vOK vM vC) : ∀ k, k ≤ 8 → ∀ t, T3 (dpF al vM nb ng k t) (dpF al vC nb ng k t) k := by
  intro k
  induction k with
  | zero => intro _ t; exact ⟨0, 0, 0, by omega, by omega, by omega, by simp [dpF], by simp [dpF]⟩
  | succ k ih => intro hk t; exact row_rel hv (by omega) (ih (by omega)) _ t ng
/-- may j be chosen -/
def chP (al : Nat → Nat → Prop) (v : Nat → Nat → Int) (nx : Nat → Int) (cur : Int) (i t j : Nat) : Prop := al i j ∧ t.testBit j = false ∧ v i j + nx (t ||| 2 ^ j) = cur
noncomputable def chI (al : Nat → Nat → Prop) (v : Nat → Nat → Int) (nb ng i t : Nat) : Int32 := fstI (pB (chP al v (dpF al v nb ng (nb - (i + 1))) (dpF al v nb ng (nb - i) t) i t)) ng
theorem chI_rel (hv : vOK vM vC) (hnb : nb ≤ 8) {i t : Nat} (hi : i < nb) : chI al vM nb ng i t = chI al vC nb ng i t := by
  unfold chI
  congr 1
  funext j
  obtain ⟨G, F, hG, e1, e2⟩ := hv i j
  have hn := dp_rel (al := al) (nb := nb) (ng := ng) hv (nb - (i + 1)) (by omega) (t ||| 2 ^ j)
  have hc : T3 (vM i j + dpF al vM nb ng (nb - (i + 1)) (t ||| 2 ^ j)) (vC i j + dpF al vC nb ng (nb - (i + 1)) (t ||| 2 ^ j)) (nb - (i + 1) + 1) := by rw [e1, e2]; exact T3_add hn hG
  have he := (T3_lt hc (dp_rel (al := al) (nb := nb) (ng := ng) hv (nb - i) (by omega) t) (by omega) (by omega)).2
  by_cases c : chP al vM (dpF al vM nb ng (nb - (i + 1))) (dpF al vM nb ng (nb - i) t) i t j
  · rw [pB_t c, pB_t ⟨c.1, c.2.1, he.mp c.2.2⟩]
  · rw [pB_f c, pB_f (fun e => c ⟨e.1, e.2.1, he.mpr e.2.2⟩)]
noncomputable def bsT (al : Nat → Nat → Prop) (v : Nat → Nat → Int) (nb ng : Nat) : Nat → Nat
  | 0 => 0
  | i + 1 => if chI al v nb ng i (bsT al v nb ng i) = (-1) then bsT al v nb ng i else bsT al v nb ng i ||| 2 ^ (chI al v nb ng i (bsT al v nb ng i)).toNatClampNeg
noncomputable def bsA (al : Nat → Nat → Prop) (v : Nat → Nat → Int) (nb ng i : Nat) : Int32 := chI al v nb ng i (bsT al v nb ng i)
theorem bs_rel (hv : vOK vM vC) (hnb : nb ≤ 8) : ∀ i, i ≤ nb → bsT al vM nb ng i = bsT al vC nb ng i := by
  intro i
  induction i with
  | zero => intro _; rfl
  | succ i ih =>
    intro hi
    rw [bsT, bsT, ih (by omega), chI_rel hv hnb (by omega)]
theorem bsA_rel (hv : vOK vM vC) (hnb : nb ≤ 8) {i : Nat} (hi : i < nb) : bsA al vM nb ng i = bsA al vC nb ng i := by
  unfold bsA
  rw [bs_rel hv hnb i (by omega), chI_rel hv hnb hi]
theorem chI_c (al : Nat → Nat → Prop) (v : Nat → Nat → Int) (nb ng i t : Nat) : chI al v nb ng i t = (-1) ∨ ∃ j, j < ng ∧ chI al v nb ng i t = nI j ∧ chP al v (dpF al v nb ng (nb - (i + 1))) (dpF al v nb ng (nb - i) t) i t j := by
  rcases fstI_c (pB (chP al v (dpF al v nb ng (nb - (i + 1))) (dpF al v nb ng (nb - i) t) i t)) ng with ⟨a, -⟩ | ⟨j, h1, h2, -, h4⟩
  · exact Or.inl a
  · exact Or.inr ⟨j, h1, h4, pB_p h2⟩
def pcN (t : Nat) : Nat := fb_ct (fun j => t.testBit j) 8
theorem pcN_or : ∀ t, t < 256 → ∀ j, j < 8 → pcN (t ||| 2 ^ j) ≤ pcN t + 1 := by decide +kernel
theorem bsT_ok {al : Nat → Nat → Prop} {v : Nat → Nat → Int} (hng : ng ≤ 8) : ∀ i, bsT al v nb ng i < 2 ^ ng ∧ pcN (bsT al v nb ng i) ≤ i := by
  intro i
  induction i with
  | zero => exact ⟨Nat.two_pow_pos _, by show pcN 0 ≤ 0; decide⟩
  | succ i ih =>
    rw [bsT]
    have h256 : 2 ^ ng ≤ 256 := by
      have : 2 ^ ng ≤ 2 ^ 8 := Nat.pow_le_pow_right (by omega) hng
      simpa using this
    split
    · exact ⟨ih.1, by omega⟩
    · rename_i hc
      rcases chI_c al v nb ng i (bsT al v nb ng i) with e | ⟨j, h1, h2, -⟩
      · exact absurd e hc
      · rw [h2, nI_clamp (by omega)]
        refine ⟨Nat.or_lt_two_pow ih.1 (Nat.pow_lt_pow_right (by omega) h1), ?_⟩
        have := pcN_or (bsT al v nb ng i) (by omega) j (by omega)
        omega
end DP
theorem bt_nI {t j : Nat} (ht : t < 2 ^ 32) (hj : j < 32) : bt (nI t) j = t.testBit j := by
  unfold bt nI
  rw [show (Int32.ofNat t).toBitVec = BitVec.ofNat 32 t from rfl, BitVec.getLsbD_ofNat]
  simp [hj]
theorem bitf {t j : Nat} (ht : t < 2 ^ 32) (hj : j < 32) : ((nI t >>> (nI j &&& 31)) &&& 1) = 0 ↔ t.testBit j = false := by
  rw [bit_0 _ hj, bt_nI ht hj]
  simp
theorem one_shl : ∀ j, j < 9 → (1 : Int32) <<< (nI j &&& 31) = nI (2 ^ j) := by decide +kernel
theorem shl8 {n : Nat} (h : n < 100) : nI n <<< ((8 : Int32) &&& 31) = nI (256 * n) := by
  rw [pk_shlN (8 &&& 31) 8 (by decide) (by omega)]
  congr 1
  omega
