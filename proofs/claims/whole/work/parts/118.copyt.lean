/-! the reference copies a text -/
def cpR (V : mI) (v x l k : Nat) : mI := fun a i =>
  if a = 116 then (if i = x then V 116 v else V 116 i)
  else if a = 117 ∨ a = 118 ∨ a = 119 then (if 16 * x ≤ i ∧ i < 16 * x + l then V a (16 * v + (i - 16 * x)) else V a i)
  else if a = 120 ∨ a = 121 ∨ a = 122 then (if 64 * x ≤ i ∧ i < 64 * x + k then V a (64 * v + (i - 64 * x)) else V a i)
  else V a i
theorem cpR_116 {V : mI} {v x l k i : Nat} : cpR V v x l k 116 i = if i = x then V 116 v else V 116 i := by simp [cpR]
theorem cpR_r {V : mI} {v x l k i a : Nat} (h : a = 117 ∨ a = 118 ∨ a = 119) : cpR V v x l k a i = if 16 * x ≤ i ∧ i < 16 * x + l then V a (16 * v + (i - 16 * x)) else V a i := by
  unfold cpR; rw [if_neg (by omega), if_pos h]
theorem cpR_w {V : mI} {v x l k i a : Nat} (h : a = 120 ∨ a = 121 ∨ a = 122) : cpR V v x l k a i = if 64 * x ≤ i ∧ i < 64 * x + k then V a (64 * v + (i - 64 * x)) else V a i := by
  unfold cpR; rw [if_neg (by omega), if_neg (by omega), if_pos h]
theorem cpR_o {V : mI} {v x l k a : Nat} (h : a < 116 ∨ 122 < a) : cpR V v x l k a = V a := by
  funext i
  unfold cpR; rw [if_neg (by omega), if_neg (by omega), if_neg (by omega)]
theorem uI3 {I : mI} {a b c i : Nat} {p q r : Int32} {e j : Nat} (h1 : a ≠ b) (h2 : a ≠ c) (h3 : b ≠ c) : uI (uI (uI I a i p) b i q) c i r e j = if (e = a ∨ e = b ∨ e = c) ∧ j = i then (if e = a then p else if e = b then q else r) else I e j := by
  unfold uI
  by_cases e1 : e = c
  · subst e1
    by_cases e2 : j = i <;> simp [e2, Ne.symm h2, Ne.symm h3]
  · by_cases e2 : e = b
    · subst e2
      by_cases e3 : j = i <;> simp [e1, e3, Ne.symm h1]
    · by_cases e4 : e = a
      · subst e4
        by_cases e3 : j = i <;> simp [e1, e2, e3]
      · simp [e1, e2, e4]
theorem cpR_row {V : mI} {v x l k : Nat} (hv : v < 7) (hx : 7 ≤ x) (hl : l < 16) : uI (uI (uI (cpR V v x l k) 117 (16 * x + l) (V 117 (16 * v + l))) 118 (16 * x + l) (V 118 (16 * v + l))) 119 (16 * x + l) (V 119 (16 * v + l)) = cpR V v x (l + 1) k := by
  funext a i
  rw [uI3 (by decide) (by decide) (by decide)]
  by_cases c : a = 117 ∨ a = 118 ∨ a = 119
  · rw [cpR_r c, cpR_r c]
    by_cases e : i = 16 * x + l
    · rw [if_pos ⟨c, e⟩, if_pos (show 16 * x ≤ i ∧ i < 16 * x + (l + 1) by omega), e, show 16 * x + l - 16 * x = l by omega]
      rcases c with rfl | rfl | rfl <;> simp
    · rw [if_neg (fun z => e z.2)]
      by_cases c2 : 16 * x ≤ i ∧ i < 16 * x + l
      · rw [if_pos c2, if_pos (by omega)]
      · rw [if_neg c2, if_neg (by omega)]
  · rw [if_neg (fun z => c z.1)]
    unfold cpR
    rw [if_neg c, if_neg c]
theorem cpR_word {V : mI} {v x l k : Nat} (hv : v < 7) (hx : 7 ≤ x) (hk : k < 64) : uI (uI (uI (cpR V v x l k) 120 (64 * x + k) (V 120 (64 * v + k))) 121 (64 * x + k) (V 121 (64 * v + k))) 122 (64 * x + k) (V 122 (64 * v + k)) = cpR V v x l (k + 1) := by
  funext a i
  rw [uI3 (by decide) (by decide) (by decide)]
  by_cases c : a = 120 ∨ a = 121 ∨ a = 122
  · rw [cpR_w c, cpR_w c]
    by_cases e : i = 64 * x + k
    · rw [if_pos ⟨c, e⟩, if_pos (show 64 * x ≤ i ∧ i < 64 * x + (k + 1) by omega), e, show 64 * x + k - 64 * x = k by omega]
      rcases c with rfl | rfl | rfl <;> simp
    · rw [if_neg (fun z => e z.2)]
      by_cases c2 : 64 * x ≤ i ∧ i < 64 * x + k
      · rw [if_pos c2, if_pos (by omega)]
      · rw [if_neg c2, if_neg (by omega)]
  · rw [if_neg (fun z => c z.1)]
    unfold cpR
    rw [if_neg c, if_neg c]
section CPT
variable {E : Envt} {d : Nat} {Q : Pst} {h : mS} {I V : mI} {L : mL}
noncomputable def cpV (V : mI) (v x : Nat) : mI := cpR V v x (V 116 v).toNatClampNeg (4 * (V 116 v).toNatClampNeg)
theorem m_copyText (hs : SL h) (w : ∀ x, x < 67 → inN (V 116 x) 17) (hV : MV I V) {v x : Nat} (hv : v < 5) (hx : 7 ≤ x) (hx2 : x < 67) (hQ : ∀ I', UM I I' → MV I' (cpV V v x) → Q none h I' L) : (CT E mX12_copyText d 0 0 [.ref (eB E + 83), .int (nI v), .int (nI x)] h I L Q) := by
  obtain ⟨nl, n17, enl⟩ := w v (by omega)
  unfold cpV at hQ
  rw [enl, nI_clamp (by omega)] at hQ
  have K : ∀ l, l ≤ nl → ∀ I', UM I I' → MV I' (cpR V v x l (4 * l)) → (J E mX12_copyText d Q 0 0 14 [some (.ref (eB E + 83)), some (.int (nI v)), some (.int (nI x)), some (.int (nI l)), none, none, none] [] h I' L) := by
    refine dn nl ?_ ?_
    · intro I' u' v'
      refine w_X12_copyText_14 hs _ _ _ ⟨vp_in_nI (by omega) (by decide), ?_⟩
      rw [nI_clamp (by omega), v' 116 (by decide) (by decide), cpR_116, if_neg (by omega), enl]
      exact br_t (nI_le (Nat.le_refl _) (by omega)) (hQ I' u' v')
    · intro l hl ih I' u' v'
      refine w_X12_copyText_14 hs _ _ _ ⟨vp_in_nI (by omega) (by decide), ?_⟩
      rw [nI_clamp (show v < 2 ^ 31 by omega), v' 116 (by decide) (by decide), cpR_116, if_neg (by omega), enl]
      refine br_f (nI_ge hl (by omega)) ?_
      have q1 : 16 * nI v + nI l = nI (16 * v + l) := by rw [N16, pk_mul, nI_add]
      have q2 : 16 * nI x + nI l = nI (16 * x + l) := by rw [N16, pk_mul, nI_add]
      rw [q1, q2, nI_clamp (show 16 * v + l < 2 ^ 31 by omega), nI_clamp (show 16 * x + l < 2 ^ 31 by omega), v' 117 (by decide) (by decide), v' 118 (by decide) (by decide), v' 119 (by decide) (by decide), cpR_r (Or.inl rfl), cpR_r (Or.inr (Or.inl rfl)), cpR_r (Or.inr (Or.inr rfl)), if_neg (show ¬ (16 * x ≤ 16 * v + l ∧ 16 * v + l < 16 * x + l) by omega), if_neg (show ¬ (16 * x ≤ 16 * v + l ∧ 16 * v + l < 16 * x + l) by omega), if_neg (show ¬ (16 * x ≤ 16 * v + l ∧ 16 * v + l < 16 * x + l) by omega)]
      refine ⟨vp_in_nI (by omega) (by decide), vp_in_nI (by omega) (by decide), ?_⟩
      have K2 : ∀ j, j ≤ 4 → ∀ I', UM I I' → MV I' (cpR V v x (l + 1) (4 * l + j)) → (J E mX12_copyText d Q 0 0 85 [some (.ref (eB E + 83)), some (.int (nI v)), some (.int (nI x)), some (.int (nI l)), some (.int (nI (16 * v + l))), some (.int (nI (16 * x + l))), some (.int (nI j))] [] h I' L) := by
        refine dn 4 ?_ ?_
        · intro I2 u2 v2
          refine w_X12_copyText_85 hs _ _ _ _ _ _ (br_t (nI_le (show 4 ≤ 4 by omega) (by decide)) ?_)
          rw [nI_1 l]
          exact ih I2 u2 v2
        · intro j hj ihj I2 u2 v2
          have p1 : 4 * nI (16 * v + l) + nI j = nI (64 * v + (4 * l + j)) := by rw [N4, pk_mul, nI_add]; congr 1; omega
          have p2 : 4 * nI (16 * x + l) + nI j = nI (64 * x + (4 * l + j)) := by rw [N4, pk_mul, nI_add]; congr 1; omega
          refine w_X12_copyText_85 hs _ _ _ _ _ _ (br_f (nI_ge (show j < 4 by omega) (by decide)) ?_)
          rw [p1, p2, nI_clamp (show 64 * v + (4 * l + j) < 2 ^ 31 by omega), nI_clamp (show 64 * x + (4 * l + j) < 2 ^ 31 by omega), v2 120 (by decide) (by decide), v2 121 (by decide) (by decide), v2 122 (by decide) (by decide), cpR_w (Or.inl rfl), cpR_w (Or.inr (Or.inl rfl)), cpR_w (Or.inr (Or.inr rfl)), if_neg (show ¬ (64 * x ≤ 64 * v + (4 * l + j) ∧ 64 * v + (4 * l + j) < 64 * x + (4 * l + j)) by omega), if_neg (show ¬ (64 * x ≤ 64 * v + (4 * l + j) ∧ 64 * v + (4 * l + j) < 64 * x + (4 * l + j)) by omega), if_neg (show ¬ (64 * x ≤ 64 * v + (4 * l + j) ∧ 64 * v + (4 * l + j) < 64 * x + (4 * l + j)) by omega), nI_1 j]
          have v3 := (v2.u (a := 120) (i := 64 * x + (4 * l + j)) (x := V 120 (64 * v + (4 * l + j)))).u (a := 121) (i := 64 * x + (4 * l + j)) (x := V 121 (64 * v + (4 * l + j))) |>.u (a := 122) (i := 64 * x + (4 * l + j)) (x := V 122 (64 * v + (4 * l + j)))
          rw [cpR_word (by omega) hx (by omega)] at v3
          exact ⟨vp_in_nI (by omega) (by decide), vp_in_nI (by omega) (by decide), ihj _ (UM.tr u2 (UM.tr (UM.tr UM.u UM.u) UM.u)) v3⟩
      have v3 := (v'.u (a := 117) (i := 16 * x + l) (x := V 117 (16 * v + l))).u (a := 118) (i := 16 * x + l) (x := V 118 (16 * v + l)) |>.u (a := 119) (i := 16 * x + l) (x := V 119 (16 * v + l))
      rw [cpR_row (by omega) hx (by omega)] at v3
      exact K2 0 (by omega) _ (UM.tr u' (UM.tr (UM.tr UM.u UM.u) UM.u)) v3
  refine w_X12_copyText hs _ _ ⟨vp_in_nI (by omega) (by decide), vp_in_nI (by omega) (by decide), ?_⟩
  rw [nI_clamp (show v < 2 ^ 31 by omega), nI_clamp (show x < 2 ^ 31 by omega), hV 116 (by decide) (by decide)]
  refine K 0 (by omega) _ UM.u ?_
  have v3 := hV.u (a := 116) (i := x) (x := V 116 v)
  have e : uI V 116 x (V 116 v) = cpR V v x 0 (4 * 0) := by
    funext a i
    by_cases c : a = 116
    · subst c; rw [cpR_116, uI_at]; rfl
    · rw [uI_ne c]
      unfold cpR
      rw [if_neg c]
      split
      · rw [if_neg (by omega)]
      · split
        · rw [if_neg (by omega)]
        · rfl
  rw [e] at v3
  exact v3
end CPT
