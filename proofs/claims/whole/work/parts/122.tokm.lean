/-! texts: the reference reads tokens -/
def pkN (f : Nat → Nat) : Nat → Nat
  | 0 => 0
  | k + 1 => pkN f k * 256 + f k
theorem pkN_cg {f g : Nat → Nat} : ∀ {k : Nat}, (∀ i, i < k → f i = g i) → pkN f k = pkN g k
  | 0, _ => rfl
  | k + 1, h => by rw [pkN, pkN, pkN_cg (fun i hi => h i (by omega)), h k (by omega)]
theorem pkN_lt {f : Nat → Nat} : ∀ {k : Nat}, (∀ i, i < k → f i < 256) → pkN f k < 256 ^ k
  | 0, _ => by rw [pkN]; decide
  | k + 1, h => by
    have h1 := pkN_lt (f := f) (k := k) (fun i hi => h i (by omega))
    have h2 := h k (by omega)
    rw [pkN, Nat.pow_succ]; omega
theorem pkN_l2 {f : Nat → Nat} : ∀ {k : Nat}, (∀ i, i < k → f i < 128) → 2 * pkN f k < 256 ^ k
  | 0, _ => by rw [pkN]; decide
  | k + 1, h => by
    have h1 := pkN_l2 (f := f) (k := k) (fun i hi => h i (by omega))
    have h2 := h k (by omega)
    rw [pkN, Nat.pow_succ]; omega
theorem pkN_inj {f g : Nat → Nat} : ∀ {k m : Nat}, (∀ i, i < k → 0 < f i ∧ f i < 256) → (∀ i, i < m → 0 < g i ∧ g i < 256) → (pkN f k = pkN g m ↔ k = m ∧ ∀ i, i < k → f i = g i)
  | 0, 0, _, _ => ⟨fun _ => ⟨rfl, fun i hi => by omega⟩, fun _ => rfl⟩
  | 0, m + 1, _, hg => by
    have := (hg m (by omega)).1
    rw [pkN, pkN]
    exact ⟨fun e => by omega, fun e => by omega⟩
  | k + 1, 0, hf, _ => by
    have := (hf k (by omega)).1
    rw [pkN, pkN]
    exact ⟨fun e => by omega, fun e => by omega⟩
  | k + 1, m + 1, hf, hg => by
    have h1 := (hf k (by omega)).2
    have h2 := (hg m (by omega)).2
    have ih := pkN_inj (f := f) (g := g) (k := k) (m := m) (fun i hi => hf i (by omega)) (fun i hi => hg i (by omega))
    rw [pkN, pkN]
    constructor
    · intro e
      have e1 : f k = g m := by omega
      have e2 := ih.mp (by omega)
      refine ⟨by omega, fun i hi => ?_⟩
      by_cases c : i = k
      · rw [c, e1, e2.1]
      · exact e2.2 i (by omega)
    · rintro ⟨e1, e2⟩
      have e3 : k = m := by omega
      have := ih.mpr ⟨e3, fun i hi => e2 i (by omega)⟩
      have e4 := e2 k (by omega)
      rw [this, e4, e3]
theorem l6_toInt {x : Nat} (h : x < 2 ^ 63) : (Int64.ofNat x).toInt = (x : Int) := Int64.toInt_ofNat_of_lt h
theorem l6_inj {x y : Nat} (hx : x < 2 ^ 63) (hy : y < 2 ^ 63) : Int64.ofNat x = Int64.ofNat y ↔ x = y := by
  rw [fa_eq64, l6_toInt hx, l6_toInt hy]; omega
theorem l6_sh {x b : Nat} (hx : x < 2 ^ 55) (hb : b < 256) : (Int64.ofNat x <<< ((8 : Int32).toInt64 &&& 63)) ||| (nI b).toInt64 = Int64.ofNat (x * 256 + b) := by
  have e8 : (8 : Int32).toInt64 &&& 63 = 8 := by decide
  have eb : (nI b).toInt64 = Int64.ofNat b := by
    rw [fa_eq64, Int32.toInt_toInt64, nI_toInt (by omega), l6_toInt (by omega)]
  rw [e8, eb]
  apply Int64.toBitVec_inj.mp
  rw [Int64.toBitVec_or, Int64.toBitVec_shiftLeft]
  apply BitVec.eq_of_toNat_eq
  rw [BitVec.toNat_or]
  have q1 : (Int64.ofNat x).toBitVec.toNat = x := by
    show (BitVec.ofNat 64 x).toNat = x
    rw [BitVec.toNat_ofNat]; omega
  have q2 : (Int64.ofNat b).toBitVec.toNat = b := by
    show (BitVec.ofNat 64 b).toNat = b
    rw [BitVec.toNat_ofNat]; omega
  have q3 : (Int64.ofNat (x * 256 + b)).toBitVec.toNat = x * 256 + b := by
    show (BitVec.ofNat 64 (x * 256 + b)).toNat = _
    rw [BitVec.toNat_ofNat]; omega
  have q4 : ((Int64.ofNat x).toBitVec <<< ((8 : Int64).toBitVec.smod 64)).toNat = x * 256 := by
    have e : ((8 : Int64).toBitVec.smod 64) = 8#64 := by decide
    rw [e]
    show ((Int64.ofNat x).toBitVec <<< (8#64).toNat).toNat = _
    rw [BitVec.toNat_shiftLeft, q1, Nat.shiftLeft_eq]
    show x * 2 ^ 8 % 2 ^ 64 = _
    omega
  rw [q2, q3, q4]
  have := Nat.shiftLeft_add_eq_or_of_lt (a := x) (i := 8) (b := b) (by omega)
  rw [Nat.shiftLeft_eq] at this
  rw [show x * 256 = x * 2 ^ 8 from rfl]
  exact this.symm
section TM
variable (tp : Nat → Int32) (n : Nat)
def seA (p : Nat) : Int32 := if n ≤ p then (-1) else tp p &&& 255
def wvN (b k : Nat) : Nat := pkN (fun i => (tp (b + i)).toNatClampNeg) k
def sM (k : Int32) : Int32 := if k = 1 then 2 else if k = 2 then 3 else if k = 3 then 4 else if k = 0 then 0 else 1
def TkM (I : mI) (L : mL) (p : Nat) : Prop :=
  (I 83 47 = nI (plc tp n p)) ∧ (I 83 45 = nI (nxt tp n p)) ∧ (I 83 48 = sM (knd tp n p)) ∧ (knd tp n p = 2 → I 83 49 = wor tp n p) ∧ (knd tp n p = 3 → I 83 49 = tp (plc tp n p)) ∧
  (knd tp n p = 1 → L 83 50 = if nxt tp n p - plc tp n p ≤ 8 then Int64.ofNat (wvN tp (plc tp n p) (nxt tp n p - plc tp n p)) else 0)
variable {tp n}
def F83 (I I' : mI) : Prop := (∀ a, a ≠ 83 → I' a = I a) ∧ ∀ j, j ≠ 45 → j ≠ 47 → j ≠ 48 → j ≠ 49 → I' 83 j = I 83 j
theorem F83.rf {I : mI} : F83 I I := ⟨fun _ _ => rfl, fun _ _ _ _ _ => rfl⟩
theorem F83.tr {I J K : mI} (h : F83 I J) (k : F83 J K) : F83 I K := ⟨fun a ha => (k.1 a ha).trans (h.1 a ha), fun j h1 h2 h3 h4 => (k.2 j h1 h2 h3 h4).trans (h.2 j h1 h2 h3 h4)⟩
theorem F83.u {I : mI} {i : Nat} {x : Int32} (h : i = 45 ∨ i = 47 ∨ i = 48 ∨ i = 49) : F83 I (uI I 83 i x) := ⟨fun a ha => uI_ne ha, fun j h1 h2 h3 h4 => uI_nj (by omega)⟩
theorem seA_r (tb : ∀ i, i < n → byt (tp i)) {p : Nat} : (0 ≤ seA tp n p ↔ p < n) ∧ ((¬ seA tp n p < 97 ∧ ¬ 122 < seA tp n p) ↔ (p < n ∧ kb (tp p) = 1)) ∧ ((¬ seA tp n p < 48 ∧ ¬ 57 < seA tp n p) ↔ (p < n ∧ kb (tp p) = 2)) ∧ ((seA tp n p = 10 ∨ seA tp n p = 32) ↔ (p < n ∧ kb (tp p) = 4)) ∧ (p < n → ∀ k, k < 128 → (seA tp n p = nI k ↔ tp p = nI k)) := by
  unfold seA
  by_cases c : n ≤ p
  · rw [if_pos c]
    have c' : ¬ p < n := by omega
    refine ⟨⟨fun e => absurd e (by decide), fun e => absurd e c'⟩, ⟨fun e => absurd e (by decide), fun e => absurd e.1 c'⟩, ⟨fun e => absurd e (by decide), fun e => absurd e.1 c'⟩, ⟨fun e => absurd e (by decide), fun e => absurd e.1 c'⟩, fun e => absurd e c'⟩
  · rw [if_neg c]
    have c' : p < n := by omega
    have b := tb p c'
    have e := and255 b
    obtain ⟨b1, b2⟩ := b
    have e97 : (97 : Int32).toInt = 97 := by decide
    have e122 : (122 : Int32).toInt = 122 := by decide
    have e48 : (48 : Int32).toInt = 48 := by decide
    have e57 : (57 : Int32).toInt = 57 := by decide
    have e10 : (10 : Int32).toInt = 10 := by decide
    have e32 : (32 : Int32).toInt = 32 := by decide
    have e0 : (0 : Int32).toInt = 0 := by decide
    rw [kb_1, kb_2, kb_4]
    simp only [fa_lt, fa_le, e97, e122, e48, e57, e0, c', true_and]
    simp only [fa_eq, e10, e32, e]
    refine ⟨⟨fun _ => trivial, fun _ => ?_⟩, ?_, ?_, ?_, fun _ k hk => ?_⟩
    · split <;> omega
    · split <;> omega
    · split <;> omega
    · split <;> omega
    · rw [nI_toInt (by omega)]; split <;> omega
theorem see_e {I : mI} {p : Nat} (e46 : I 83 46 = nI n) (e84 : ∀ i, i < n → I 84 i = tp i) (n5 : n ≤ 500) (hp : p ≤ n) (e45 : I 83 45 = nI p) : (if I 83 46 ≤ I 83 45 then (-1) else I 84 ((I 83 45).toNatClampNeg) &&& 255 : Int32) = seA tp n p := by
  rw [e46, e45, nI_clamp (by omega)]
  unfold seA
  by_cases c : n ≤ p
  · rw [if_pos c, if_pos (nI_le c (by omega))]
  · rw [if_neg c, if_neg (nI_ge (by omega) (by omega)), e84 p (by omega)]
variable {E : Envt} {d : Nat} {Q : Pst} {h : mS} {I : mI} {L : mL}
theorem m_tokW (hs : SL h) (tb : ∀ i, i < n → byt (tp i)) (n5 : n ≤ 500) {p : Nat} (hk : knd tp n p = 1) (hQ : ∀ I' L', F83 I I' → TkM tp n I' L' p → Q none h I' L') (x1 : Int32) :
    ∀ f k I' L', nxt tp n p - (plc tp n p + k) = f → plc tp n p + k ≤ nxt tp n p → F83 I I' → I' 83 46 = nI n → (∀ i, i < n → I' 84 i = tp i) → I' 83 47 = nI (plc tp n p) → I' 83 45 = nI (plc tp n p + k) → (k ≤ 8 → L' 83 50 = Int64.ofNat (wvN tp (plc tp n p) k)) → (J E mX12_token (d + 1) Q 0 0 79 [some (.ref (eB E + 83)), some (.int x1), some (.int (nI k))] [] h I' L') := by
  obtain ⟨g1, g2, g3, g4⟩ := kn_1 hk
  have nle : nxt tp n p ≤ n := by rw [g2]; exact ru_le (by omega)
  intro f
  induction f with
  | zero =>
    intro k I' L' ef hle fr e46 e84 e47 e45 eL
    have ek : plc tp n p + k = nxt tp n p := by omega
    have hr := (seA_r (n := n) tb (p := plc tp n p + k)).2.1
    have hno : ¬ (plc tp n p + k < n ∧ kb (tp (plc tp n p + k)) = 1) := by rw [ek, g2]; exact ru_end
    have en : nxt tp n p - plc tp n p = k := by omega
    refine w_X12_token_79 hs _ _ ⟨fun _ => by rw [e45]; exact vp_in_nI (show plc tp n p + k < 2000 by omega) (by decide), ?_⟩
    rw [see_e e46 e84 n5 (by omega) e45]
    refine br_f (fun e => hno (hr.mp e)) ?_
    rintro y8 rfl
    refine hQ _ _ (F83.tr fr (F83.u (by omega))) ⟨by rw [uI_nj (by decide)]; exact e47, by rw [uI_nj (by decide), e45, ek], by rw [uI_eq, hk]; rfl, fun e => ?_, fun e => ?_, fun _ => ?_⟩
    · rw [hk] at e; exact absurd e (by decide)
    · rw [hk] at e; exact absurd e (by decide)
    · rw [uL_s]
      show (if 50 = 50 then _ else _) = _
      rw [if_pos rfl, en]
      by_cases c : k ≤ 8
      · rw [if_pos c, if_pos (show nI k ≤ 8 from nI_le (show k ≤ 8 by omega) (by decide)), eL c]
      · rw [if_neg c, if_neg (show ¬ nI k ≤ 8 from nI_ge (show 8 < k by omega) (by omega))]
  | succ f ih =>
    intro k I' L' ef hle fr e46 e84 e47 e45 eL
    have hin := g4 (plc tp n p + k) (by omega) (by omega)
    have hr := (seA_r (n := n) tb (p := plc tp n p + k)).2.1
    refine w_X12_token_79 hs _ _ ⟨fun _ => by rw [e45]; exact vp_in_nI (by omega) (by decide), ?_⟩
    rw [see_e e46 e84 n5 (by omega) e45]
    refine br_t (hr.mpr hin) ?_
    rw [e45, nI_1, nI_1]
    refine ih (k + 1) _ _ (by omega) (by omega) (F83.tr fr (F83.u (by omega))) (by rw [uI_nj (by decide)]; exact e46) (fun i hi => by rw [uI_ne (by decide)]; exact e84 i hi) (by rw [uI_nj (by decide)]; exact e47) (by rw [uI_eq]; congr 1) (fun hk8 => ?_)
    rw [uL_s]
    show (if 50 = 50 then _ else _) = _
    rw [if_pos rfl, eL (by omega)]
    have hb := tb _ hin.1
    have k1 := kb_1.mp hin.2
    rw [fa_lt, fa_lt] at k1
    have e97 : (97 : Int32).toInt = 97 := by decide
    have e122 : (122 : Int32).toInt = 122 := by decide
    rw [e97, e122] at k1
    have ec : tp (plc tp n p + k) = nI (tp (plc tp n p + k)).toInt.toNat := by rw [fa_eq, nI_toInt (by omega)]; omega
    have es : seA tp n (plc tp n p + k) = nI (tp (plc tp n p + k)).toInt.toNat := ((seA_r (n := n) tb (p := plc tp n p + k)).2.2.2.2 hin.1 _ (by omega)).mpr ec
    have et : (tp (plc tp n p + k)).toNatClampNeg = (tp (plc tp n p + k)).toInt.toNat := rfl
    have hlt : wvN tp (plc tp n p) k < 256 ^ k := pkN_lt (fun i hi => by
      have hi2 := kb_1.mp (g4 (plc tp n p + i) (by omega) (by omega)).2
      rw [fa_lt, fa_lt, e97, e122] at hi2
      show (tp (plc tp n p + i)).toInt.toNat < 256
      omega)
    have hp7 : 256 ^ k ≤ 256 ^ 7 := Nat.pow_le_pow_right (by decide) (by omega)
    have h56 : (256 : Nat) ^ 7 = 2 ^ 56 := by decide
    have ew : wvN tp (plc tp n p) (k + 1) = wvN tp (plc tp n p) k * 256 + (tp (plc tp n p + k)).toInt.toNat := rfl
    rw [es, ew]
    by_cases k7 : k ≤ 6
    · have hp6 : 256 ^ k ≤ 256 ^ 6 := Nat.pow_le_pow_right (by decide) k7
      have h48 : (256 : Nat) ^ 6 = 2 ^ 48 := by decide
      exact l6_sh (by omega) (by omega)
    · have e7 : k = 7 := by omega
      subst e7
      have top : wvN tp (plc tp n p) 7 < 2 ^ 55 := by
        have h7 : 2 * wvN tp (plc tp n p) 7 < 256 ^ 7 := pkN_l2 (fun i hi => by
          have hi2 := kb_1.mp (g4 (plc tp n p + i) (by omega) (by omega)).2
          rw [fa_lt, fa_lt, e97, e122] at hi2
          show (tp (plc tp n p + i)).toInt.toNat < 128
          omega)
        omega
      exact l6_sh top (by omega)
theorem knd_of0 {p : Nat} (h : ¬ plc tp n p < n) : knd tp n p = 0 ∧ nxt tp n p = plc tp n p := ⟨kn_0.mpr h, by unfold nxt; rw [if_neg h]⟩
theorem kn0_of {p : Nat} (h : plc tp n p < n) : kn0 tp n p = kb (tp (plc tp n p)) := by unfold kn0; rw [if_pos h]
theorem knd_of1 {p : Nat} (h : plc tp n p < n) (hk : kb (tp (plc tp n p)) = 1) : knd tp n p = 1 := by
  unfold knd; rw [kn0_of h, hk, if_neg (fun e => absurd e.1 (by decide))]
theorem knd_of2 {p : Nat} (h : plc tp n p < n) (hk : kb (tp (plc tp n p)) = 2) : knd tp n p = (if nxt tp n p - plc tp n p ≤ 4 then 2 else 5) ∧ nxt tp n p = ru tp n 2 (plc tp n p + 1) := by
  refine ⟨?_, ?_⟩
  · unfold knd; rw [kn0_of h, hk]
    by_cases c : nxt tp n p - plc tp n p ≤ 4
    · rw [if_pos c, if_neg (fun e => absurd e.2 (by omega))]
    · rw [if_neg c, if_pos ⟨rfl, by omega⟩]
  · unfold nxt; rw [if_pos h, kn0_of h, hk, if_pos (Or.inr rfl)]
theorem knd_of3 {p : Nat} (h : plc tp n p < n) (h1 : ¬ kb (tp (plc tp n p)) = 1) (h2 : ¬ kb (tp (plc tp n p)) = 2) : knd tp n p = kb (tp (plc tp n p)) ∧ nxt tp n p = plc tp n p + 1 := by
  refine ⟨?_, ?_⟩
  · unfold knd; rw [kn0_of h, if_neg (fun e => h2 e.1)]
  · unfold nxt; rw [if_pos h, kn0_of h, if_neg (fun e => e.elim h1 h2)]
theorem plc_nb {p : Nat} : ¬ (plc tp n p < n ∧ kb (tp (plc tp n p)) = 4) := ru_end
theorem wr_m {v c : Int32} : 10 * v + c - 48 = v * 10 + (c - 48) := by
  rw [Int32.mul_comm, Int32.sub_eq_add_neg, Int32.sub_eq_add_neg, Int32.add_assoc]
theorem m_tokN (hs : SL h) (tb : ∀ i, i < n → byt (tp i)) (n5 : n ≤ 500) {p : Nat} (hp : plc tp n p < n) (hk : kb (tp (plc tp n p)) = 2) (hQ : ∀ I' L', F83 I I' → TkM tp n I' L' p → Q none h I' L') (x1 : Int32) :
    ∀ f k I' L', nxt tp n p - (plc tp n p + k) = f → plc tp n p + k ≤ nxt tp n p → F83 I I' → I' 83 46 = nI n → (∀ i, i < n → I' 84 i = tp i) → I' 83 47 = nI (plc tp n p) → I' 83 45 = nI (plc tp n p + k) → (k ≤ 4 → I' 83 49 = wr tp (plc tp n p) k) → (J E mX12_token (d + 1) Q 0 0 168 [some (.ref (eB E + 83)), some (.int x1), some (.int (nI k))] [] h I' L') := by
  obtain ⟨g1, g2⟩ := knd_of2 hp hk
  have nle : nxt tp n p ≤ n := by rw [g2]; exact ru_le (by omega)
  have g4 : ∀ i, plc tp n p ≤ i → i < nxt tp n p → i < n ∧ kb (tp i) = 2 := fun i h1 h2 => by
    by_cases e : i = plc tp n p
    · rw [e]; exact ⟨hp, hk⟩
    · rw [g2] at h2; exact ru_in (by omega) h2
  intro f
  induction f with
  | zero =>
    intro k I' L' ef hle fr e46 e84 e47 e45 eV
    have ek : plc tp n p + k = nxt tp n p := by omega
    have hr := (seA_r (n := n) tb (p := plc tp n p + k)).2.2.1
    have hno : ¬ (plc tp n p + k < n ∧ kb (tp (plc tp n p + k)) = 2) := by rw [ek, g2]; exact ru_end
    have en : nxt tp n p - plc tp n p = k := by omega
    refine w_X12_token_168 hs _ _ ⟨fun _ => by rw [e45]; exact vp_in_nI (show plc tp n p + k < 2000 by omega) (by decide), ?_⟩
    rw [see_e e46 e84 n5 (by omega) e45]
    refine br_f (fun e => hno (hr.mp e)) ?_
    have e48 : (if nI k ≤ 4 then 3 else 1 : Int32) = sM (knd tp n p) := by
      rw [g1, en]
      by_cases c : k ≤ 4
      · rw [if_pos c, if_pos (show nI k ≤ 4 from nI_le (show k ≤ 4 by omega) (by decide))]; rfl
      · rw [if_neg c, if_neg (show ¬ nI k ≤ 4 from nI_ge (show 4 < k by omega) (by omega))]; rfl
    refine hQ _ _ (F83.tr fr (F83.u (by omega))) ⟨by rw [uI_nj (by decide)]; exact e47, by rw [uI_nj (by decide), e45, ek], by rw [uI_eq]; exact e48, fun e => ?_, fun e => ?_, fun e => ?_⟩
    · rw [uI_nj (by decide)]
      rw [g1, en] at e
      have c : k ≤ 4 := by
        apply Classical.byContradiction; intro c
        rw [if_neg c] at e; exact absurd e (by decide)
      rw [eV c, wor, en]
    · rw [g1] at e; split at e <;> exact absurd e (by decide)
    · rw [g1] at e; split at e <;> exact absurd e (by decide)
  | succ f ih =>
    intro k I' L' ef hle fr e46 e84 e47 e45 eV
    have hin := g4 (plc tp n p + k) (by omega) (by omega)
    have hr := (seA_r (n := n) tb (p := plc tp n p + k)).2.2.1
    refine w_X12_token_168 hs _ _ ⟨fun _ => by rw [e45]; exact vp_in_nI (show plc tp n p + k < 2000 by omega) (by decide), ?_⟩
    rw [see_e e46 e84 n5 (by omega) e45]
    refine br_t (hr.mpr hin) ?_
    rintro y11 rfl
    rw [e45, nI_1, nI_1]
    refine ih (k + 1) _ _ (by omega) (by omega) (F83.tr fr (F83.tr (F83.u (by omega)) (F83.u (by omega)))) (by rw [uI_nj (by decide), uI_nj (by decide)]; exact e46) (fun i hi => by rw [uI_ne (by decide), uI_ne (by decide)]; exact e84 i hi) (by rw [uI_nj (by decide), uI_nj (by decide)]; exact e47) (by rw [uI_eq]; congr 1) (fun hk4 => ?_)
    obtain ⟨c, c1, c2⟩ := dig hin.2
    have es : seA tp n (plc tp n p + k) = nI (48 + c) := ((seA_r (n := n) tb (p := plc tp n p + k)).2.2.2.2 hin.1 _ (by omega)).mpr c2
    rw [uI_nj (by decide), uI_eq, if_neg (show ¬ (4 : Int32) ≤ nI k from nI_ge (show k < 4 by omega) (by decide)), eV (by omega), es, wr, c2, wr_m]
theorem m_token (hs : SL h) (tb : ∀ i, i < n → byt (tp i)) (n5 : n ≤ 500) {p : Nat} (hp : p ≤ n) (e46 : I 83 46 = nI n) (e84 : ∀ i, i < n → I 84 i = tp i) (e45 : I 83 45 = nI p) (hQ : ∀ I' L', F83 I I' → TkM tp n I' L' p → Q none h I' L') : (CT E mX12_token (d + 1) 0 0 [.ref (eB E + 83)] h I L Q) := by
  refine CT.of (by decide) [some (.ref (eB E + 83)), none, none] rfl (Nat.le_of_ble_eq_true rfl) ?_
  have K : ∀ f k I', plc tp n p - k = f → p ≤ k → k ≤ plc tp n p → F83 I I' → I' 83 46 = nI n → (∀ i, i < n → I' 84 i = tp i) → I' 83 45 = nI k → (J E mX12_token (d + 1) Q 0 0 0 [some (.ref (eB E + 83)), none, none] [] h I' L) := by
    intro f
    induction f with
    | zero =>
      intro k I' ef h1 h2 fr e46 e84 e45
      have ek : k = plc tp n p := by omega
      subst ek
      obtain ⟨r0, r1, r2, r4, r5⟩ := seA_r (n := n) tb (p := plc tp n p)
      have pn := plc_le (tp := tp) hp
      have nb : ¬ (seA tp n (plc tp n p) = 10 ∨ seA tp n (plc tp n p) = 32) := fun e => plc_nb (r4.mp e)
      have hv : ¬ I' 83 46 ≤ I' 83 45 → vp_in (I' 83 45) 2000 := fun _ => by rw [e45]; exact vp_in_nI (show plc tp n p < 2000 by omega) (by decide)
      have es := see_e e46 e84 n5 pn e45
      refine w_X12_token_0 hs ⟨hv, ?_⟩
      rw [es]
      refine br_f (fun e => nb (Or.inl e)) (br_f (fun e => nb (Or.inr e)) ⟨fun _ => by rw [uI_nj (by decide), e45]; exact vp_in_nI (show plc tp n p < 2000 by omega) (by decide), ?_⟩)
      have fr1 : F83 I (uI I' 83 47 (I' 83 45)) := F83.tr fr (F83.u (by omega))
      have es1 : (if uI I' 83 47 (I' 83 45) 83 46 ≤ uI I' 83 47 (I' 83 45) 83 45 then (-1) else uI I' 83 47 (I' 83 45) 84 ((uI I' 83 47 (I' 83 45) 83 45).toNatClampNeg) &&& 255 : Int32) = seA tp n (plc tp n p) := see_e (by rw [uI_nj (by decide)]; exact e46) (fun i hi => by rw [uI_ne (by decide)]; exact e84 i hi) n5 pn (by rw [uI_nj (by decide)]; exact e45)
      rw [es1]
      rintro y11 rfl
      by_cases c : plc tp n p < n
      · refine br_t (r0.mpr c) ?_
        by_cases k1 : kb (tp (plc tp n p)) = 1
        · refine br_t (r1.mpr ⟨c, k1⟩) ?_
          have g := nxt_gt c
          exact m_tokW hs tb n5 (knd_of1 c k1) hQ _ _ 0 _ _ rfl (by omega) (F83.tr fr1 (F83.u (by omega))) (by rw [uI_nj (by decide), uI_nj (by decide)]; exact e46) (fun i hi => by rw [uI_ne (by decide), uI_ne (by decide)]; exact e84 i hi) (by rw [uI_nj (by decide), uI_eq]; exact e45) (by rw [uI_nj (by decide), uI_nj (by decide)]; exact e45) (fun _ => by rw [uL_s]; rfl)
        · refine br_f (fun e => k1 (r1.mp e).2) ?_
          by_cases k2 : kb (tp (plc tp n p)) = 2
          · refine br_t (r2.mpr ⟨c, k2⟩) ?_
            have g := nxt_gt c
            exact m_tokN hs tb n5 c k2 hQ _ _ 0 _ _ rfl (by omega) (F83.tr fr1 (F83.tr (F83.u (by omega)) (F83.u (by omega)))) (by rw [uI_nj (by decide), uI_nj (by decide), uI_nj (by decide)]; exact e46) (fun i hi => by rw [uI_ne (by decide), uI_ne (by decide), uI_ne (by decide)]; exact e84 i hi) (by rw [uI_nj (by decide), uI_nj (by decide), uI_eq]; exact e45) (by rw [uI_nj (by decide), uI_nj (by decide), uI_nj (by decide)]; exact e45) (fun _ => by rw [uI_eq]; rfl)
          · refine br_f (fun e => k2 (r2.mp e).2) ?_
            obtain ⟨g1, g2⟩ := knd_of3 c k1 k2
            rintro y24 rfl
            refine hQ _ _ (F83.tr fr1 (F83.tr (F83.tr (F83.u (by omega)) (F83.u (by omega))) (F83.u (by omega)))) ⟨?_, ?_, ?_, fun e => ?_, fun e => ?_, fun e => ?_⟩
            · rw [uI_nj (by decide), uI_nj (by decide), uI_nj (by decide), uI_eq]; exact e45
            · rw [uI_nj (by decide), uI_eq, e45, nI_1, g2]
            · rw [uI_eq, g1]
              have q : ∀ k : Nat, k < 128 → (seA tp n (plc tp n p) = nI k) = (tp (plc tp n p) = nI k) := fun k hk => propext (r5 c k hk)
              have a1 := q 58 (by decide)
              have a2 := q 59 (by decide)
              have a3 := q 60 (by decide)
              have a4 := q 62 (by decide)
              have a5 := q 61 (by decide)
              have z : ∀ s t : Int32, (s = 58) = (t = 58) → (s = 59) = (t = 59) → (s = 60) = (t = 60) → (s = 62) = (t = 62) → (s = 61) = (t = 61) → kb t ≠ 1 → kb t ≠ 2 → (if s = 58 then 4 else if s = 59 then 4 else if s = 60 then 4 else if s = 62 then 4 else if s = 61 then 4 else 1 : Int32) = sM (kb t) := by
                intro s t z1 z2 z3 z4 z5 n1 n2
                simp only [z1, z2, z3, z4, z5]
                have m1 : t < 97 ∨ 122 < t := Classical.byContradiction fun z => n1 (kb_1.mpr ⟨fun e => z (Or.inl e), fun e => z (Or.inr e)⟩)
                have m2 : t < 48 ∨ 57 < t := Classical.byContradiction fun z => n2 (kb_2.mpr ⟨fun e => z (Or.inl e), fun e => z (Or.inr e)⟩)
                unfold kb
                rw [if_pos m1, if_pos m2]
                by_cases w1 : t = 58
                · rw [if_pos w1, if_pos (Or.inl w1)]; rfl
                · by_cases w2 : t = 59
                  · rw [if_neg w1, if_pos w2, if_pos (Or.inr (Or.inl w2))]; rfl
                  · by_cases w3 : t = 60
                    · rw [if_neg w1, if_neg w2, if_pos w3, if_pos (Or.inr (Or.inr (Or.inl w3)))]; rfl
                    · by_cases w4 : t = 62
                      · rw [if_neg w1, if_neg w2, if_neg w3, if_pos w4, if_pos (Or.inr (Or.inr (Or.inr (Or.inl w4))))]; rfl
                      · by_cases w5 : t = 61
                        · rw [if_neg w1, if_neg w2, if_neg w3, if_neg w4, if_pos w5, if_pos (Or.inr (Or.inr (Or.inr (Or.inr w5))))]; rfl
                        · rw [if_neg w1, if_neg w2, if_neg w3, if_neg w4, if_neg w5, if_neg (fun e => e.elim w1 (fun e => e.elim w2 (fun e => e.elim w3 (fun e => e.elim w4 w5))))]
                          split <;> rfl
              exact z _ _ a1 a2 a3 a4 a5 k1 k2
            · rw [g1] at e; exact absurd e k2
            · rw [uI_nj (by decide), uI_nj (by decide), uI_eq]
              rw [g1] at e
              have m1 : tp (plc tp n p) < 97 ∨ 122 < tp (plc tp n p) := Classical.byContradiction fun z => k1 (kb_1.mpr ⟨fun e => z (Or.inl e), fun e => z (Or.inr e)⟩)
              have m2 : tp (plc tp n p) < 48 ∨ 57 < tp (plc tp n p) := Classical.byContradiction fun z => k2 (kb_2.mpr ⟨fun e => z (Or.inl e), fun e => z (Or.inr e)⟩)
              unfold kb at e
              rw [if_pos m1, if_pos m2] at e
              by_cases w : tp (plc tp n p) = 58 ∨ tp (plc tp n p) = 59 ∨ tp (plc tp n p) = 60 ∨ tp (plc tp n p) = 62 ∨ tp (plc tp n p) = 61
              · rcases w with w | w | w | w | w
                · rw [w]; exact (r5 c 58 (by decide)).mpr w
                · rw [w]; exact (r5 c 59 (by decide)).mpr w
                · rw [w]; exact (r5 c 60 (by decide)).mpr w
                · rw [w]; exact (r5 c 62 (by decide)).mpr w
                · rw [w]; exact (r5 c 61 (by decide)).mpr w
              · rw [if_neg w] at e
                split at e <;> exact absurd e (by decide)
            · rw [g1] at e; exact absurd e k1
      · refine br_f (fun e => c (r0.mp e)) ?_
        obtain ⟨g1, g2⟩ := knd_of0 c
        refine hQ _ _ (F83.tr fr1 (F83.tr (F83.u (by omega)) (F83.u (by omega)))) ⟨?_, ?_, ?_, fun e => ?_, fun e => ?_, fun e => ?_⟩
        · rw [uI_nj (by decide), uI_nj (by decide), uI_eq]; exact e45
        · rw [uI_nj (by decide), uI_nj (by decide), uI_nj (by decide), g2]; exact e45
        · rw [uI_eq, g1]; rfl
        · rw [g1] at e; exact absurd e (by decide)
        · rw [g1] at e; exact absurd e (by decide)
        · rw [g1] at e; exact absurd e (by decide)
    | succ f ih =>
      intro k I' ef h1 h2 fr e46 e84 e45
      have pn := plc_le (tp := tp) hp
      have hin : k < n ∧ kb (tp k) = 4 := ru_in (p := p) h1 (show k < plc tp n p by omega)
      obtain ⟨r0, r1, r2, r4, r5⟩ := seA_r (n := n) tb (p := k)
      have hb := r4.mpr hin
      have es := see_e e46 e84 n5 (show k ≤ n by omega) e45
      have hv : ¬ I' 83 46 ≤ I' 83 45 → vp_in (I' 83 45) 2000 := fun _ => by rw [e45]; exact vp_in_nI (show k < 2000 by omega) (by decide)
      have nx := ih (k + 1) (uI I' 83 45 (I' 83 45 + 1)) (by omega) (by omega) (by omega) (F83.tr fr (F83.u (by omega))) (by rw [uI_nj (by decide)]; exact e46) (fun i hi => by rw [uI_ne (by decide)]; exact e84 i hi) (by rw [uI_eq, e45, nI_1])
      refine w_X12_token_0 hs ⟨hv, ?_⟩
      rw [es]
      refine ⟨fun _ => nx, fun c1 => ⟨fun _ => nx, fun c2 => (hb.elim c1 c2).elim⟩⟩
  exact K _ p I rfl (Nat.le_refl _) plc_ge F83.rf e46 e84 e45
end TM
