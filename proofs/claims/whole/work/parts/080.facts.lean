/-! flags and facts of a couple -/
theorem uI_nj {I : mI} {a i j : Nat} {v : Int32} (h : j ≠ i) : uI I a i v a j = I a j := by simp [uI, h]
theorem bit_rd (x : Int32) {j : Nat} (hj : j < 32) : ((x >>> (nI j &&& 31)) &&& 1) = if bt x j = true then 1 else 0 := by
  have h1 : ∀ i, i < 32 → bt 1 i = decide (i = 0) := by decide
  refine b_ext fun i hi => ?_
  rw [b_and, h1 i hi, b_sshr j hj x hi]
  by_cases e : i = 0
  · subst e
    rw [if_pos (by omega)]
    by_cases c : bt x j = true
    · rw [if_pos c, h1 0 (by decide), Nat.add_zero, c]; rfl
    · rw [if_neg c, b_0, Nat.add_zero]; simp at c; rw [c]; rfl
  · have : decide (i = 0) = false := by simp [e]
    rw [this, Bool.and_false]
    split
    · rw [h1 i hi, this]
    · rw [b_0]
theorem bit_1 (x : Int32) {j : Nat} (hj : j < 32) : ((x >>> (nI j &&& 31)) &&& 1) = 1 ↔ bt x j = true := by
  rw [bit_rd x hj]
  by_cases c : bt x j = true
  · rw [if_pos c]; exact ⟨fun _ => c, fun _ => rfl⟩
  · rw [if_neg c]; exact ⟨fun e => absurd e (by decide), fun e => absurd e c⟩
theorem bit_0 (x : Int32) {j : Nat} (hj : j < 32) : ((x >>> (nI j &&& 31)) &&& 1) = 0 ↔ ¬ bt x j = true := by
  rw [bit_rd x hj]
  by_cases c : bt x j = true
  · rw [if_pos c]; exact ⟨fun e => absurd e (by decide), fun e => absurd c e⟩
  · rw [if_neg c]; exact ⟨fun _ => c, fun _ => rfl⟩
def hN (V : mI) (p : Nat) : Nat := (V 96 p).toNatClampNeg
theorem hN_ok {V : mI} (w : Wf V) {p : Nat} (hp : p < 20) : hN V p < 8 ∧ V 96 p = nI (hN V p) := (w.P.hou p hp).nat (by decide)
def elA (V : mI) (b : Nat) : Prop := ∃ p, p < cP V ∧ V 97 p = 0 ∧ V 96 p = V 96 b ∧ V 100 p = 0 ∧ V 103 p = 0 ∧ (V 99 p < V 99 b ∨ (V 99 p = V 99 b ∧ p < b))
def stA (V : mI) (b g : Nat) : Int32 := if (if V 98 g ≤ V 98 b then V 98 b - V 98 g else V 98 g - V 98 b) ≤ 4 then (if V 98 g ≤ V 98 b then V 98 b - V 98 g else V 98 g - V 98 b) else 8 - (if V 98 g ≤ V 98 b then V 98 b - V 98 g else V 98 g - V 98 b)
def gpA (V : mI) (b g : Nat) : Int32 := if V 88 0 - V 99 g ≤ V 88 0 - V 99 b then (V 88 0 - V 99 b) - (V 88 0 - V 99 g) else (V 88 0 - V 99 g) - (V 88 0 - V 99 b)
noncomputable def faA (V : mI) (b g : Nat) (kn : Int32) : Nat → Int32
  | 0 => bI (V 91 (hN V b) = V 91 (hN V g))
  | 1 => bI (V 92 (hN V b) = V 92 (hN V g))
  | 2 => bI (fdB V (hN V b) (hN V g) = true)
  | 3 => V 102 b
  | 4 => cif (elA V b) 1 0
  | 5 => stA V b g
  | 6 => kn
  | 7 => V 88 0 - V 99 g
  | 8 => V 88 0 - V 99 b
  | 9 => gpA V b g
  | 10 => V 93 (hN V g)
  | _ => 0
theorem st_eq : ∀ a, a < 8 → ∀ b, b < 8 → (if (8 - (if 0 ≤ nI a - nI b then nI a - nI b else -(nI a - nI b))) < (if 0 ≤ nI a - nI b then nI a - nI b else -(nI a - nI b)) then 8 - (if 0 ≤ nI a - nI b then nI a - nI b else -(nI a - nI b)) else (if 0 ≤ nI a - nI b then nI a - nI b else -(nI a - nI b)) : Int32) =
    (if (if nI b ≤ nI a then nI a - nI b else nI b - nI a) ≤ 4 then (if nI b ≤ nI a then nI a - nI b else nI b - nI a) else 8 - (if nI b ≤ nI a then nI a - nI b else nI b - nI a)) := by decide +kernel
theorem gp_eq {y a b : Int32} (hy : 0 ≤ y.toInt ∧ y.toInt ≤ 300) (ha : -80 ≤ a.toInt ∧ a.toInt ≤ 300) (hb : -80 ≤ b.toInt ∧ b.toInt ≤ 300) : (if 0 ≤ a - b then a - b else -(a - b)) = (if y - b ≤ y - a then (y - a) - (y - b) else (y - b) - (y - a)) := by
  have e1 : (a - b).toInt = a.toInt - b.toInt := fb_subI (by omega) (by omega)
  have e2 : (y - a).toInt = y.toInt - a.toInt := fb_subI (by omega) (by omega)
  have e3 : (y - b).toInt = y.toInt - b.toInt := fb_subI (by omega) (by omega)
  have e4 : (y - a - (y - b)).toInt = y.toInt - a.toInt - (y.toInt - b.toInt) := by rw [fb_subI (by omega) (by omega), e2, e3]
  have e5 : (y - b - (y - a)).toInt = y.toInt - b.toInt - (y.toInt - a.toInt) := by rw [fb_subI (by omega) (by omega), e2, e3]
  have e6 : (-(a - b)).toInt = -(a.toInt - b.toInt) := by rw [fb_negI (by omega), e1]
  rw [fa_eq]
  have z0 : (0 : Int32).toInt = 0 := by decide
  by_cases c1 : 0 ≤ a - b
  · rw [if_pos c1]
    rw [fa_le, e1, z0] at c1
    by_cases c2 : y - b ≤ y - a
    · rw [if_pos c2, e4, e1]
      rw [fa_le, e2, e3] at c2
      omega
    · rw [if_neg c2, e5, e1]; omega
  · rw [if_neg c1]
    rw [fa_le, e1, z0] at c1
    by_cases c2 : y - b ≤ y - a
    · rw [if_pos c2, e4, e6]
      rw [fa_le, e2, e3] at c2
      omega
    · rw [if_neg c2, e5, e6]
      rw [fa_le, e2, e3] at c2
      omega
section FA
variable {E : Envt} {d : Nat} {Q : Pst} {h : mS} {I V : mI} {L : mL}
theorem c_hasElder (q : CQ h I V) {b : Nat} (hb : b < cP V) (hQ : Q (some (.int (cif (elA V b) 1 0))) h I L) : (CT E mX7_hasElder (d + 1) 0 0 [.ref (eB E + 7), .int (nI b)] h I L Q) := by
  have n20 := q.w.P.n20
  refine w_X7_hasElder q.s _ ?_
  have e7 : I 7 0 = nI (cP V) := (bP_n q.b).trans q.w.P.n
  have K : ∀ k, k ≤ cP V → (∀ p, p < k → ¬ (V 97 p = 0 ∧ V 96 p = V 96 b ∧ V 100 p = 0 ∧ V 103 p = 0 ∧ (V 99 p < V 99 b ∨ (V 99 p = V 99 b ∧ p < b)))) → (J E mX7_hasElder (d + 1) Q 0 0 2 [some (.ref (eB E + 7)), some (.int (nI b)), some (.int (nI k))] [] h I L) := by
    refine dn (cP V) ?_ ?_
    · intro hno
      refine w_X7_hasElder_2 q.s _ _ (br_t (by rw [e7]; exact nI_le (Nat.le_refl _) (by omega)) ?_)
      rw [cif_f (by rintro ⟨p, h1, h2⟩; exact hno p h1 h2)] at hQ
      exact hQ
    · intro k hk ih hno
      refine w_X7_hasElder_2 q.s _ _ (br_f (by rw [e7]; exact nI_ge hk (by omega)) ⟨vp_in_nI (by omega) (by decide), ?_⟩)
      rw [nI_clamp (show k < 2 ^ 31 by omega), nI_clamp (show b < 2 ^ 31 by omega), bP_kin q.b k (by omega), bP_hou q.b k (by omega), bP_hou q.b b (by omega), bP_ali q.b k hk, bP_bor q.b k (by omega), bP_bor q.b b (by omega), nI_1]
      have go : ¬ (V 97 k = 0 ∧ V 96 k = V 96 b ∧ V 100 k = 0 ∧ V 103 k = 0 ∧ (V 99 k < V 99 b ∨ (V 99 k = V 99 b ∧ k < b))) → (J E mX7_hasElder (d + 1) Q 0 0 2 [some (.ref (eB E + 7)), some (.int (nI b)), some (.int (nI (k + 1)))] [] h I L) := fun hn => ih (lt_s hno hn)
      refine br_c (fun c1 => ⟨vp_in_nI (by omega) (by decide), br_c (fun c2 => br_c (fun c3 => go ?_) (fun c3 => br_c (fun c4 => ⟨vp_in_nI (by omega) (by decide), vp_in_nI (by omega) (by decide), br_c (fun c5 => ?_) (fun c5 => go ?_)⟩) (fun c4 => go ?_))) (fun c2 => go fun hh => c2 hh.2.1)⟩) (fun c1 => go fun hh => c1 hh.1)
      · rintro ⟨-, -, c, -⟩
        rw [if_pos c] at c3
        exact absurd c3 (by decide)
      · have c3' : V 100 k = 0 := Classical.byContradiction fun e => c3 (if_neg e)
        rw [bP_was q.b k hk c1] at c4
        have hel : elA V b := by
          refine ⟨k, hk, c1, c2, c3', c4, ?_⟩
          rcases c5 with c | ⟨c, c'⟩
          · exact Or.inl c
          · rw [nI_leI (by omega) (by omega)] at c'; exact Or.inr ⟨c, by omega⟩
        rw [cif_t hel] at hQ
        exact hQ
      · rintro ⟨-, -, -, -, hh⟩
        apply c5
        rcases hh with c | ⟨c, c'⟩
        · exact Or.inl c
        · exact Or.inr ⟨c, nI_ge c' (by omega)⟩
      · rintro ⟨-, -, -, hh, -⟩
        rw [bP_was q.b k hk c1] at c4
        exact c4 hh
  exact K 0 (by omega) (fun p hp => absurd hp (by omega))
theorem m_hasElder (hs : SL h) (w : Wf V) (hV : MV I V) {b : Nat} (hb : b < cP V) (hQ : Q (some (.int (cif (elA V b) 1 0))) h I L) : (CT E mX12_hasElder d 0 0 [.ref (eB E + 83), .int (nI b)] h I L Q) := by
  have n20 := w.P.n20
  refine w_X12_hasElder hs _ ?_
  have e95 : I 95 0 = nI (cP V) := by rw [hV 95 (by decide) (by decide)]; exact w.P.n
  have K : ∀ k, k ≤ cP V → (∀ p, p < k → ¬ (V 97 p = 0 ∧ V 96 p = V 96 b ∧ V 100 p = 0 ∧ V 103 p = 0 ∧ (V 99 p < V 99 b ∨ (V 99 p = V 99 b ∧ p < b)))) → (J E mX12_hasElder d Q 0 0 2 [some (.ref (eB E + 83)), some (.int (nI b)), some (.int (nI k)), none] [] h I L) := by
    refine dn (cP V) ?_ ?_
    · intro hno
      refine w_X12_hasElder_2 hs _ _ (br_t (by rw [e95]; exact nI_le (Nat.le_refl _) (by omega)) ?_)
      rw [cif_f (by rintro ⟨p, h1, h2⟩; exact hno p h1 h2)] at hQ
      exact hQ
    · intro k hk ih hno
      refine w_X12_hasElder_2 hs _ _ (br_f (by rw [e95]; exact nI_ge hk (by omega)) ⟨vp_in_nI (by omega) (by decide), vp_in_nI (by omega) (by decide), ?_⟩)
      rw [nI_clamp (show k < 2 ^ 31 by omega), nI_clamp (show b < 2 ^ 31 by omega), hV 96 (by decide) (by decide), hV 97 (by decide) (by decide), hV 100 (by decide) (by decide), hV 103 (by decide) (by decide), hV 99 (by decide) (by decide), nI_1]
      have go : ¬ (V 97 k = 0 ∧ V 96 k = V 96 b ∧ V 100 k = 0 ∧ V 103 k = 0 ∧ (V 99 k < V 99 b ∨ (V 99 k = V 99 b ∧ k < b))) → (J E mX12_hasElder d Q 0 0 2 [some (.ref (eB E + 83)), some (.int (nI b)), some (.int (nI (k + 1))), none] [] h I L) := fun hn => ih (lt_s hno hn)
      refine br_c (fun c0 => go ?_) (fun c0 => br_c (fun c2 => br_c (fun c1 => br_c (fun c3 => br_c (fun c4 => br_c (fun c5 => ?_) (fun c5 => go ?_)) (fun c4 => go fun hh => c4 hh.2.2.2.1)) (fun c3 => go fun hh => c3 hh.2.2.1)) (fun c1 => go fun hh => c1 hh.1)) (fun c2 => go fun hh => c2 hh.2.1))
      · rw [nI_eq (by omega) (by omega)] at c0
        subst c0
        rintro ⟨-, -, -, -, hh | ⟨-, hh⟩⟩
        · rw [fa_lt] at hh; omega
        · omega
      · have hel : elA V b := by
          refine ⟨k, hk, c1, c2, c3, c4, ?_⟩
          rcases c5 with c | ⟨c, c'⟩
          · exact Or.inl c
          · rw [nI_leI (by omega) (by omega)] at c'; exact Or.inr ⟨c, by omega⟩
        rw [cif_t hel] at hQ
        exact hQ
      · rintro ⟨-, -, -, -, hh⟩
        apply c5
        rcases hh with c | ⟨c, c'⟩
        · exact Or.inl c
        · exact Or.inr ⟨c, nI_ge c' (by omega)⟩
  exact K 0 (by omega) (fun p hp => absurd hp (by omega))
theorem bI_nn {p : Prop} [Decidable p] {i : Decidable (¬ bI p = 0)} : @bI (¬ bI p = 0) i = bI p := by
  by_cases c : p
  · have e : bI p = 1 := bI_t c
    exact (bI_t (by rw [e]; decide)).trans e.symm
  · have e : bI p = 0 := bI_f c
    exact (bI_f (fun q => q e)).trans e.symm
theorem bI_ofz {x : Int32} (h : bz x) {i : Decidable (¬ x = 0)} : @bI (¬ x = 0) i = x := by
  rcases h with e | e
  · exact (bI_f (fun q => q e)).trans e.symm
  · exact (bI_t (by rw [e]; decide)).trans e.symm
theorem bI_cg {p q : Prop} {i : Decidable p} {j : Decidable q} (h : p ↔ q) : @bI p i = @bI q j := by
  by_cases c : p
  · rw [bI_t c, bI_t (h.mp c)]
  · rw [bI_f c, bI_f (fun e => c (h.mpr e))]
/-- what a look at a couple changes: the judge's cells and the tables of kin -/
def JFr (I I' : mI) : Prop := ∀ a, a < 56 ∨ 64 < a → I' a = I a
theorem JFr.fr {I I' : mI} (k : JFr I I') : FrC I I' := fun a ha => k a (by omega)
theorem JFr.tr {I J K : mI} (h : JFr I J) (k : JFr J K) : JFr I K := fun a ha => (k a ha).trans (h a ha)
theorem c_face (q : CQ h I V) {b g : Nat} (hb : b < cP V) (hg : g < cP V) (hQ : ∀ I', (∀ a, a ≠ 63 → a ≠ 64 → I' a = I a) → I' 63 2 = nI b → I' 63 3 = nI g → I' 64 6 = I 64 6 → (∀ j, j < 11 → j ≠ 6 → I' 64 j = faA V b g 0 j) → (∀ j, j ≠ 2 → j ≠ 3 → I' 63 j = I 63 j) → Q none h I' L) : (CT E mX2_face (d + 2) 0 0 [.ref (eB E + 63), .int (nI b), .int (nI g)] h I L Q) := by
  have n20 := q.w.P.n20
  obtain ⟨hb8, ehb⟩ := hN_ok q.w (p := b) (by omega)
  obtain ⟨hg8, ehg⟩ := hN_ok q.w (p := g) (by omega)
  obtain ⟨sb, hsb, esb⟩ := q.w.P.sta b (by omega)
  obtain ⟨sg, hsg, esg⟩ := q.w.P.sta g (by omega)
  refine w_X2_face q.s _ _ ?_
  rw [nI_clamp (show b < 2 ^ 31 by omega), nI_clamp (show g < 2 ^ 31 by omega), bP_hou q.b b (by omega), bP_hou q.b g (by omega), bP_sta q.b b (by omega), bP_sta q.b g (by omega), ehb, ehg, bP_wid q.b b (by omega)]
  refine ⟨vp_in_nI (by omega) (by decide), ?_⟩
  rintro y2 rfl
  refine ⟨vp_in_nI (by omega) (by decide), ?_⟩
  rintro y4 rfl
  rintro y7 rfl
  rw [nI_clamp (show hN V b < 2 ^ 31 by omega), nI_clamp (show hN V g < 2 ^ 31 by omega)]
  refine ⟨vp_in_nI (by omega) (by decide), vp_in_nI (by omega) (by decide), vp_in_nI (by omega) (by decide), ?_⟩
  simp (disch := decide) only [uI_ne]
  rw [bH_clan q.b _ hb8, bH_clan q.b _ hg8, bH_vil q.b _ hb8, bH_vil q.b _ hg8, bH_feud q.b _ hb8]
  have q1 : ∀ I', (∀ a, a ≠ 63 → a ≠ 64 → I' a = I a) → CQ h I' V := fun I' f => q.fk (fun a ha => f a (by omega) (by omega))
  refine c_hasElder (q1 _ (fun a h1 h2 => by simp only [uI_ne h1, uI_ne h2])) hb ⟨rfl, rfl, _, rfl, ?_⟩
  simp (disch := decide) only [uI_ne, uI_eq, uI_nj]
  rw [nI_clamp (show b < 2 ^ 31 by omega), nI_clamp (show g < 2 ^ 31 by omega), bS_y q.b, bP_bor q.b b (by omega), bP_bor q.b g (by omega), bH_coin q.b _ hg8]
  refine ⟨vp_in_nI (by omega) (by decide), vp_in_nI (by omega) (by decide), hQ _ (fun a h1 h2 => by simp only [uI_ne h1, uI_ne h2]) ?_ ?_ ?_ ?_ ?_⟩
  · simp (disch := decide) only [uI_ne, uI_eq, uI_nj]
  · simp (disch := decide) only [uI_ne, uI_eq, uI_nj]
  · simp (disch := decide) only [uI_ne, uI_eq, uI_nj]
  · intro j hj h6
    have hj' : j = 0 ∨ j = 1 ∨ j = 2 ∨ j = 3 ∨ j = 4 ∨ j = 5 ∨ j = 7 ∨ j = 8 ∨ j = 9 ∨ j = 10 := by omega
    rcases hj' with rfl | rfl | rfl | rfl | rfl | rfl | rfl | rfl | rfl | rfl <;> simp (disch := decide) only [uI_ne, uI_eq, uI_nj, faA]
    · exact bI_nn
    · exact bI_nn
    · rw [bI_nn]
      exact bI_cg (bit_1 _ (by omega))
    · exact bI_ofz (q.w.P.wid b (by omega))
    · by_cases c : elA V b
      · rw [cif_t c]; exact bI_t (by decide)
      · rw [cif_f c]; exact bI_f (by simp)
    · rw [esb, esg]
      unfold stA
      rw [esb, esg]
      exact st_eq sb hsb sg hsg
    · have hy := q.w.S.y3
      have ey := q.w.S.y
      have : (V 88 0).toInt = cY V := by rw [ey, nI_toInt (by omega)]
      exact gp_eq (by omega) (q.w.P.bor b (by omega)) (q.w.P.bor g (by omega))
  · intro j h1 h2
    simp (disch := first | decide | assumption) only [uI_ne, uI_nj]
end FA
