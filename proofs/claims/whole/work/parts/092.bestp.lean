/-! best and bestFor -/
def sumI (f : Nat → Int32) : Nat → Int32
  | 0 => 0
  | n + 1 => sumI f n + f n
noncomputable def bfW (V : mI) (i : Nat) : Int32 := if bsG V i = (-1) then 0 else 1
noncomputable def bfE (V : mI) (i : Nat) : Int32 := if bsG V i = (-1) then 0 else cif (fdA V i (bsG V i).toNatClampNeg) 1 0
noncomputable def bfG (V : mI) (i : Nat) : Int32 := if bsG V i = (-1) then 0 else gfA V i (bsG V i).toNatClampNeg
noncomputable def bestA (V : mI) (x : Int32) : Int32 := cif (inN x 3) (if x = 0 then sumI (bfW V) (pkC V 0) else if x = 1 then sumI (bfE V) (pkC V 0) else sumI (bfG V) (pkC V 0)) (-1)
def tkOK (V : mI) (tk : Nat → Int32) : Prop := ∀ i, i < pkC V 0 → tk i = (-1) ∨ ∃ j, j < pkC V 1 ∧ tk i = nI j
def prA (V : mI) (tk : Nat → Int32) (x : Int32) (i : Nat) : Prop := ¬ tk i = (-1) ∧ (nI (pkI V 0 i) = x ∨ nI (pkI V 1 (tk i).toNatClampNeg) = x)
noncomputable def wwA (V : mI) (tk : Nat → Int32) (x : Int32) : Int32 := cif (∃ i, i < pkC V 0 ∧ prA V tk x i) (if nI (pkI V 0 (lsN (prA V tk x) (pkC V 0))) = x then nI (pkI V 1 (tk (lsN (prA V tk x) (pkC V 0))).toNatClampNeg) else nI (pkI V 0 (lsN (prA V tk x) (pkC V 0)))) (-1)
theorem wwA_y {V : mI} {tk : Nat → Int32} {x : Int32} {i : Nat} (hi : i < pkC V 0) (h : prA V tk x i) (hn : ∀ j, j < i → ¬ prA V tk x j) : wwA V tk x = if nI (pkI V 0 i) = x then nI (pkI V 1 (tk i).toNatClampNeg) else nI (pkI V 0 i) := by
  unfold wwA
  rw [cif_t ⟨i, hi, h⟩, lsN_eq hi h hn]
theorem wwA_n {V : mI} {tk : Nat → Int32} {x : Int32} (hn : ∀ j, j < pkC V 0 → ¬ prA V tk x j) : wwA V tk x = (-1) := cif_f (by rintro ⟨i, h1, h2⟩; exact hn i h1 h2)
theorem wwA_cg {V : mI} {tk tk' : Nat → Int32} {x : Int32} (h : ∀ i, i < pkC V 0 → tk i = tk' i) : wwA V tk x = wwA V tk' x := by
  by_cases c : ∃ i, i < pkC V 0 ∧ prA V tk x i
  · obtain ⟨a, b, e⟩ := lsN_ok (p := prA V tk x) c
    have key : ∀ i, i < pkC V 0 → (prA V tk x i ↔ prA V tk' x i) := fun i hi => by unfold prA; rw [h i hi]
    rw [wwA_y a b e, wwA_y (tk := tk') a ((key _ a).mp b) (fun j hj q => e j hj ((key j (by omega)).mpr q)), h _ a]
  · rw [wwA_n (fun j hj q => c ⟨j, hj, q⟩), wwA_n (fun j hj q => c ⟨j, hj, by unfold prA at q ⊢; rw [h j hj]; exact q⟩)]
section BP
variable {E : Envt} {d : Nat} {Q : Pst} {h : mS} {I V : mI} {L : mL}
theorem pk8 (V : mI) (k : Nat) : pkC V k ≤ 8 := by unfold pkC; omega
theorem c_partnerOf (hs : SL h) (w : Wf V) (hG : GA I V) {tk : Nat → Int32} {x : Int32} (ht : ∀ i, i < pkC V 0 → I 76 i = tk i) (hk : tkOK V tk) (hQ : Q (some (.int (wwA V tk x))) h I L) : (CT E mX6_partnerOf d 0 0 [.ref (eB E + 65), .int x] h I L Q) := by
  have p0 := pk8 V 0
  have p1 := pk8 V 1
  refine w_X6_partnerOf hs _ ?_
  have K : ∀ i, i ≤ pkC V 0 → (∀ j, j < i → ¬ prA V tk x j) → (J E mX6_partnerOf d Q 0 0 2 [some (.ref (eB E + 65)), some (.int x), some (.int (nI i)), none] [] h I L) := by
    refine dn (pkC V 0) ?_ ?_
    · intro hno
      rw [wwA_n hno] at hQ
      exact w_X6_partnerOf_2 hs _ _ (br_t (by rw [hG.1]; exact nI_le (Nat.le_refl _) (by omega)) hQ)
    · intro i hi ih hno
      refine w_X6_partnerOf_2 hs _ _ (br_f (by rw [hG.1]; exact nI_ge hi (by omega)) ⟨vp_in_nI (by omega) (by decide), ?_⟩)
      rw [nI_clamp (by omega), ht i hi, hG.2.2.1 i hi, nI_1]
      rcases hk i hi with e | ⟨j, hj, e⟩
      · exact br_t e (ih (lt_s hno fun q => q.1 e))
      · have hne : ¬ tk i = (-1) := by rw [e]; exact m1_nI (by omega)
        refine br_f hne ⟨by rw [e]; exact vp_in_nI (by omega) (by decide), ?_⟩
        have ej : (tk i).toNatClampNeg = j := by rw [e, nI_clamp (by omega)]
        rw [ej, hG.2.2.2.1 j hj]
        rintro y5 rfl
        refine br_c (fun c1 => ?_) (fun c1 => br_c (fun c2 => ?_) (fun c2 => ih (lt_s hno fun q => ?_)))
        · rw [wwA_y hi ⟨hne, Or.inl c1⟩ hno, if_pos c1, ej] at hQ; exact hQ
        · rw [wwA_y hi ⟨hne, Or.inr (by rw [ej]; exact c2)⟩ hno, if_neg c1] at hQ; exact hQ
        · rcases q.2 with q | q
          · exact c1 q
          · rw [ej] at q; exact c2 q
  exact K 0 (by omega) (fun j hj => absurd hj (by omega))
theorem m_withWhom (hs : SL h) (w : Wf V) (hG : GM I V) {tk : Nat → Int32} {x : Int32} (ht : ∀ i, i < pkC V 0 → I 139 i = tk i) (hk : tkOK V tk) (hQ : Q (some (.int (wwA V tk x))) h I L) : (CT E mX12_withWhom d 0 0 [.ref (eB E + 83), .int x] h I L Q) := by
  have p0 := pk8 V 0
  have p1 := pk8 V 1
  refine w_X12_withWhom hs _ ?_
  have K : ∀ i, i ≤ pkC V 0 → (∀ j, j < i → ¬ prA V tk x j) → (J E mX12_withWhom d Q 0 0 2 [some (.ref (eB E + 83)), some (.int x), some (.int (nI i))] [] h I L) := by
    refine dn (pkC V 0) ?_ ?_
    · intro hno
      rw [wwA_n hno] at hQ
      exact w_X12_withWhom_2 hs _ _ (br_t (by rw [hG.1]; exact nI_le (Nat.le_refl _) (by omega)) hQ)
    · intro i hi ih hno
      refine w_X12_withWhom_2 hs _ _ (br_f (by rw [hG.1]; exact nI_ge hi (by omega)) ⟨vp_in_nI (by omega) (by decide), ?_⟩)
      rw [nI_clamp (by omega), ht i hi, hG.2.2.1 i hi]
      have leave : (¬ tk i = (-1) → ¬ nI (pkI V 0 i) = x) → (J E mX12_withWhom d Q 0 0 44 [some (.ref (eB E + 83)), some (.int x), some (.int (nI i))] [] h I L) := by
        intro hne1
        refine w_X12_withWhom_44 hs _ _ ⟨vp_in_nI (by omega) (by decide), ?_⟩
        rw [nI_clamp (by omega), ht i hi, hG.2.2.1 i hi, nI_1]
        rcases hk i hi with e | ⟨j, hj, e⟩
        · exact br_t e (ih (lt_s hno fun q => q.1 e))
        · have hne : ¬ tk i = (-1) := by rw [e]; exact m1_nI (by omega)
          refine br_f hne ⟨by rw [e]; exact vp_in_nI (by omega) (by decide), ?_⟩
          have ej : (tk i).toNatClampNeg = j := by rw [e, nI_clamp (by omega)]
          rw [ej, hG.2.2.2.1 j hj]
          refine br_c (fun c2 => ?_) (fun c2 => ih (lt_s hno fun q => ?_))
          · rw [wwA_y hi ⟨hne, Or.inr (by rw [ej]; exact c2)⟩ hno, if_neg (hne1 hne)] at hQ; exact hQ
          · rcases q.2 with q | q
            · exact hne1 hne q
            · rw [ej] at q; exact c2 q
      rcases hk i hi with e | ⟨j, hj, e⟩
      · exact br_t e (leave fun q => absurd e q)
      · have hne : ¬ tk i = (-1) := by rw [e]; exact m1_nI (by omega)
        have ej : (tk i).toNatClampNeg = j := by rw [e, nI_clamp (by omega)]
        refine br_f hne (br_c (fun c1 => ⟨by rw [e]; exact vp_in_nI (by omega) (by decide), ?_⟩) (fun c1 => leave fun _ => c1))
        rw [ej, hG.2.2.2.1 j hj]
        rw [wwA_y hi ⟨hne, Or.inl c1⟩ hno, if_pos c1, ej] at hQ; exact hQ
  exact K 0 (by omega) (fun j hj => absurd hj (by omega))
theorem bs_tk (V : mI) : tkOK V (bsG V) := fun i _ => by
  rcases bsG_c V i with e | ⟨j, h1, h2, -⟩
  · exact Or.inl e
  · exact Or.inr ⟨j, h1, h2⟩
theorem c_weddings (hs : SL h) (hG : GA I V) (ht : ∀ i, i < pkC V 0 → I 76 i = bsG V i) (hQ : Q (some (.int (sumI (bfW V) (pkC V 0)))) h I L) : (CT E mX6_weddings d 0 0 [.ref (eB E + 65)] h I L Q) := by
  have p0 := pk8 V 0
  refine w_X6_weddings hs ?_
  have K : ∀ i, i ≤ pkC V 0 → (J E mX6_weddings d Q 0 0 4 [some (.ref (eB E + 65)), some (.int (sumI (bfW V) i)), some (.int (nI i))] [] h I L) := by
    refine dn (pkC V 0) ?_ ?_
    · exact w_X6_weddings_4 hs _ _ (br_t (by rw [hG.1]; exact nI_le (Nat.le_refl _) (by omega)) hQ)
    · intro i hi ih
      refine w_X6_weddings_4 hs _ _ (br_f (by rw [hG.1]; exact nI_ge hi (by omega)) ⟨vp_in_nI (by omega) (by decide), ?_⟩)
      rw [nI_clamp (by omega), ht i hi, nI_1]
      rintro y4 rfl
      have e : bI (¬ bsG V i = (-1)) = bfW V i := by
        unfold bfW
        by_cases c : bsG V i = (-1)
        · rw [if_pos c]; exact bI_f (fun q => q c)
        · rw [if_neg c]; exact bI_t c
      rw [e]; exact ih
  exact K 0 (by omega)
theorem c_feudsEnded (hs : SL h) (hG : GA I V) (ht : ∀ i, i < pkC V 0 → I 76 i = bsG V i) (hQ : Q (some (.int (sumI (bfE V) (pkC V 0)))) h I L) : (CT E mX6_feudsEnded d 0 0 [.ref (eB E + 65)] h I L Q) := by
  have p0 := pk8 V 0
  have p1 := pk8 V 1
  refine w_X6_feudsEnded hs ?_
  have K : ∀ i, i ≤ pkC V 0 → (J E mX6_feudsEnded d Q 0 0 4 [some (.ref (eB E + 65)), some (.int (sumI (bfE V) i)), some (.int (nI i))] [] h I L) := by
    refine dn (pkC V 0) ?_ ?_
    · exact w_X6_feudsEnded_4 hs _ _ (br_t (by rw [hG.1]; exact nI_le (Nat.le_refl _) (by omega)) hQ)
    · intro i hi ih
      refine w_X6_feudsEnded_4 hs _ _ (br_f (by rw [hG.1]; exact nI_ge hi (by omega)) ⟨vp_in_nI (by omega) (by decide), ?_⟩)
      rw [nI_clamp (by omega), ht i hi, nI_1]
      have es : sumI (bfE V) (i + 1) = sumI (bfE V) i + bfE V i := rfl
      rw [es] at ih
      rcases bsG_c V i with e | ⟨j, hj, e, -⟩
      · refine ⟨fun q => absurd e q, ?_⟩
        rintro y7 rfl
        rw [if_pos e]
        have eg : bfE V i = 0 := if_pos e
        rw [eg] at ih
        simpa using ih
      · have hne : ¬ bsG V i = (-1) := by rw [e]; exact m1_nI (by omega)
        have ej : (bsG V i).toNatClampNeg = j := by rw [e, nI_clamp (by omega)]
        have ei : nI i * 8 + bsG V i = nI (8 * i + j) := by rw [e, N8, pk_mul, nI_add, Nat.mul_comm]
        rw [ei, nI_clamp (show 8 * i + j < 2 ^ 31 by omega), (hG.2.2.2.2 i j hi hj).2.2.1]
        refine ⟨fun _ => vp_in_nI (by omega) (by decide), ?_⟩
        rintro y7 rfl
        rw [if_neg hne]
        have eg : bfE V i = cif (fdA V i j) 1 0 := by unfold bfE; rw [if_neg hne, ej]
        rw [eg] at ih
        by_cases c : fdA V i j
        · rw [cif_t c, if_neg (show ¬ (1 : Int32) = 0 by decide)]; rw [cif_t c] at ih; exact ih
        · rw [cif_f c, if_pos rfl]; rw [cif_f c] at ih; simpa using ih
  exact K 0 (by omega)
theorem c_giftsTogether (hs : SL h) (hG : GA I V) (ht : ∀ i, i < pkC V 0 → I 76 i = bsG V i) (hQ : Q (some (.int (sumI (bfG V) (pkC V 0)))) h I L) : (CT E mX6_giftsTogether d 0 0 [.ref (eB E + 65)] h I L Q) := by
  have p0 := pk8 V 0
  have p1 := pk8 V 1
  refine w_X6_giftsTogether hs ?_
  have K : ∀ i, i ≤ pkC V 0 → (J E mX6_giftsTogether d Q 0 0 4 [some (.ref (eB E + 65)), some (.int (sumI (bfG V) i)), some (.int (nI i))] [] h I L) := by
    refine dn (pkC V 0) ?_ ?_
    · exact w_X6_giftsTogether_4 hs _ _ (br_t (by rw [hG.1]; exact nI_le (Nat.le_refl _) (by omega)) hQ)
    · intro i hi ih
      refine w_X6_giftsTogether_4 hs _ _ (br_f (by rw [hG.1]; exact nI_ge hi (by omega)) ⟨vp_in_nI (by omega) (by decide), ?_⟩)
      rw [nI_clamp (by omega), ht i hi, nI_1]
      have es : sumI (bfG V) (i + 1) = sumI (bfG V) i + bfG V i := rfl
      rw [es] at ih
      rcases bsG_c V i with e | ⟨j, hj, e, -⟩
      · refine ⟨fun q => absurd e q, ?_⟩
        rintro y7 rfl
        rw [if_pos e]
        have eg : bfG V i = 0 := if_pos e
        rw [eg] at ih
        simpa using ih
      · have hne : ¬ bsG V i = (-1) := by rw [e]; exact m1_nI (by omega)
        have ej : (bsG V i).toNatClampNeg = j := by rw [e, nI_clamp (by omega)]
        have ei : nI i * 8 + bsG V i = nI (8 * i + j) := by rw [e, N8, pk_mul, nI_add, Nat.mul_comm]
        rw [ei, nI_clamp (show 8 * i + j < 2 ^ 31 by omega), (hG.2.2.2.2 i j hi hj).2.1]
        refine ⟨fun _ => vp_in_nI (by omega) (by decide), ?_⟩
        rintro y7 rfl
        rw [if_neg hne]
        have eg : bfG V i = gfA V i j := by unfold bfG; rw [if_neg hne, ej]
        rw [eg] at ih
        exact ih
  exact K 0 (by omega)
theorem c_best (q : CQ h I V) {x : Int32} (hQ : ∀ I', FrC I I' → Kc I' V → Q (some (.int (bestA V x))) h I' L) : (CT E mX11_best (d + 7) 0 0 [.ref (eB E + 0), .int x] h I L Q) := by
  have hr : (¬ x < 0 ∧ ¬ 2 < x) ↔ inN x 3 := by
    rw [← in_rng x (show 3 < 2 ^ 31 by decide)]
    have : (¬ 2 < x) ↔ ¬ nI 3 ≤ x := by
      rw [fa_lt, fa_le, nI_toInt (by decide)]
      simp
      omega
    rw [this]
  refine w_X11_best q.s _ (br_c (fun c => ?_) (fun c => ?_))
  · refine c_gather q (fun I1 f1 k1 g1 => qv_i ?_)
    refine c_settleBest q.s q.w g1 (fun I2 f2 t2 => qv_i ?_)
    have fin := hQ I2 (fun a ha => by rw [f2 a (by omega) (by omega)]; exact f1 a (by omega)) (k1.cg (f2 57 (by decide) (by decide)) (f2 58 (by decide) (by decide)))
    have g2 : GA I2 V := by
      unfold GA
      rw [f2 65 (by decide) (by decide), f2 66 (by decide) (by decide), f2 67 (by decide) (by decide), f2 68 (by decide) (by decide), f2 69 (by decide) (by decide), f2 70 (by decide) (by decide), f2 71 (by decide) (by decide)]
      exact g1
    unfold bestA at fin
    rw [cif_t (hr.mp c)] at fin
    refine ⟨fun e => ?_, fun e => ?_, fun e1 e2 => ?_⟩
    · rw [if_pos e] at fin
      exact c_weddings q.s g2 t2 (qi_i fin)
    · rw [if_neg (by rw [e]; decide), if_pos e] at fin
      exact c_feudsEnded q.s g2 t2 (qi_i fin)
    · rw [if_neg e1, if_neg e2] at fin
      exact c_giftsTogether q.s g2 t2 (qi_i fin)
  · have fin := hQ I FrC.rf q.k
    unfold bestA at fin
    rw [cif_f (fun e => c (hr.mpr e))] at fin
    exact fin
noncomputable def bforA (V : mI) (x : Int32) : Int32 := cif (inN x (cP V)) (wwA V (bsG V) x) (-1)
theorem c_bestFor (q : CQ h I V) {x : Int32} (hQ : ∀ I', FrC I I' → Kc I' V → Q (some (.int (bforA V x))) h I' L) : (CT E mX11_bestFor (d + 7) 0 0 [.ref (eB E + 0), .int x] h I L Q) := by
  have n20 := q.w.P.n20
  have hr : (¬ x < 0 ∧ ¬ I 7 0 ≤ x) ↔ inN x (cP V) := by rw [bP_n q.b, q.w.P.n]; exact in_rng x (by omega)
  refine w_X11_bestFor q.s _ (br_c (fun c => ?_) (fun c => ?_))
  · refine c_gather q (fun I1 f1 k1 g1 => qv_i ?_)
    refine c_settleBest q.s q.w g1 (fun I2 f2 t2 => qv_i ?_)
    have fin := hQ I2 (fun a ha => by rw [f2 a (by omega) (by omega)]; exact f1 a (by omega)) (k1.cg (f2 57 (by decide) (by decide)) (f2 58 (by decide) (by decide)))
    have g2 : GA I2 V := by
      unfold GA
      rw [f2 65 (by decide) (by decide), f2 66 (by decide) (by decide), f2 67 (by decide) (by decide), f2 68 (by decide) (by decide), f2 69 (by decide) (by decide), f2 70 (by decide) (by decide), f2 71 (by decide) (by decide)]
      exact g1
    unfold bforA at fin
    rw [cif_t (hr.mp c)] at fin
    exact c_partnerOf q.s q.w g2 t2 (bs_tk V) (qi_i fin)
  · have fin := hQ I FrC.rf q.k
    unfold bforA at fin
    rw [cif_f (fun e => c (hr.mpr e))] at fin
    exact fin
theorem rngM {x : Int32} {n : Nat} (hn : n < 1000000) : (¬ x < 0 ∧ ¬ nI n - 1 < x) ↔ inN x n := by
  rw [← in_rng x (show n < 2 ^ 31 by omega)]
  have : (¬ nI n - 1 < x) ↔ ¬ nI n ≤ x := by
    rw [fa_lt, fa_le, nI_toInt (by omega)]
    have e : (nI n - 1).toInt = (n : Int) - 1 := by
      rw [fb_subI] <;> rw [nI_toInt (by omega)] <;> simp <;> omega
    rw [e]
    omega
  rw [this]
theorem m_bestFor (hs : SL h) (w : Wf V) (hV : MV I V) {x : Int32} (hQ : ∀ I' L', FrM I I' → Q (some (.int (bforA V x))) h I' L') : (CT E mX12_bestFor (d + 7) 0 0 [.ref (eB E + 83), .int x] h I L Q) := by
  have n20 := w.P.n20
  have hr : (¬ x < 0 ∧ ¬ uI I 83 0 0 95 0 - 1 < x) ↔ inN x (cP V) := by rw [uI_ne (by decide), hV 95 (by decide) (by decide), w.P.n]; exact rngM (by omega)
  have hV1 : MV (uI I 83 0 0) V := hV.fr FrM.u
  refine w_X12_bestFor hs _ (br_c (fun c => ?_) (fun c => ?_))
  · refine m_findBest hs w hV1 (fun I1 L1 f1 g1 t1 => qvL_i ?_)
    have fin := hQ I1 L1 (fun a ha => by rw [f1 a (by omega) (by omega) (by omega) (by omega), uI_ne (by omega)])
    unfold bforA at fin
    rw [cif_t (hr.mp c)] at fin
    exact m_withWhom hs w g1 t1 (bs_tk V) (qi_i fin)
  · have fin := hQ (uI I 83 0 0) L FrM.u
    unfold bforA at fin
    rw [cif_f (fun e => c (hr.mpr e))] at fin
    exact fin
theorem m_best (hs : SL h) (w : Wf V) (hV : MV I V) {x : Int32} (hQ : ∀ I' L', FrM I I' → Q (some (.int (bestA V x))) h I' L') : (CT E mX12_best (d + 7) 0 0 [.ref (eB E + 83), .int x] h I L Q) := by
  have n20 := w.P.n20
  have p0 := pk8 V 0
  have p1 := pk8 V 1
  have hr : (¬ x < 0 ∧ ¬ 2 < x) ↔ inN x 3 := by
    rw [← in_rng x (show 3 < 2 ^ 31 by decide)]
    have : (¬ 2 < x) ↔ ¬ nI 3 ≤ x := by
      rw [fa_lt, fa_le, nI_toInt (by decide)]
      simp
      omega
    rw [this]
  have hV1 : MV (uI I 83 0 0) V := hV.fr FrM.u
  refine w_X12_best hs _ (br_c (fun c => ?_) (fun c => ?_))
  · refine m_findBest hs w hV1 (fun I1 L1 f1 g1 t1 => qvL_i ?_)
    have fin := hQ I1 L1 (fun a ha => by rw [f1 a (by omega) (by omega) (by omega) (by omega), uI_ne (by omega)])
    unfold bestA at fin
    rw [cif_t (hr.mp c)] at fin
    have hV2 : MV I1 V := fun a h1 h2 => by rw [f1 a (by omega) (by omega) (by omega) (by omega)]; exact hV1 a h1 h2
    have K : ∀ i, i ≤ pkC V 0 → (J E mX12_best (d + 7) Q 0 0 30 [some (.ref (eB E + 83)), some (.int x), some (.int (sumI (bfW V) i)), some (.int (sumI (bfE V) i)), some (.int (sumI (bfG V) i)), some (.int (nI i))] [] h I1 L1) := by
      refine dn (pkC V 0) ?_ ?_
      · exact w_X12_best_30 hs _ _ _ _ _ (br_t (by rw [g1.1]; exact nI_le (Nat.le_refl _) (by omega)) fin)
      · intro i hi ih
        have e1 : sumI (bfW V) (i + 1) = sumI (bfW V) i + bfW V i := rfl
        have e2 : sumI (bfE V) (i + 1) = sumI (bfE V) i + bfE V i := rfl
        have e3 : sumI (bfG V) (i + 1) = sumI (bfG V) i + bfG V i := rfl
        rw [e1, e2, e3] at ih
        refine w_X12_best_30 hs _ _ _ _ _ (br_f (by rw [g1.1]; exact nI_ge hi (by omega)) ⟨vp_in_nI (by omega) (by decide), ?_⟩)
        rw [nI_clamp (show i < 2 ^ 31 by omega), t1 i hi, nI_1]
        rcases bsG_c V i with e | ⟨j, hj, e, hmp⟩
        · have z1 : bfW V i = 0 := if_pos e
          have z2 : bfE V i = 0 := if_pos e
          have z3 : bfG V i = 0 := if_pos e
          rw [z1, z2, z3] at ih
          refine br_t e ?_
          simpa using ih
        · have hne : ¬ bsG V i = (-1) := by rw [e]; exact m1_nI (by omega)
          have ej : (bsG V i).toNatClampNeg = j := by rw [e, nI_clamp (by omega)]
          have z1 : bfW V i = 1 := if_neg hne
          have z2 : bfE V i = cif (fdA V i j) 1 0 := by unfold bfE; rw [if_neg hne, ej]
          have z3 : bfG V i = gfA V i j := by unfold bfG; rw [if_neg hne, ej]
          rw [z1, z2, z3] at ih
          obtain ⟨b1, -, -⟩ := pk_ok hi
          obtain ⟨gg1, -, -⟩ := pk_ok hj
          obtain ⟨hb8, ehb⟩ := hN_ok w (p := pkI V 0 i) (by omega)
          obtain ⟨hg8, ehg⟩ := hN_ok w (p := pkI V 1 j) (by omega)
          have ei : 8 * nI i + bsG V i = nI (8 * i + j) := by rw [e, N8, pk_mul, nI_add]
          refine br_f hne ?_
          rw [ej, ei, nI_clamp (show 8 * i + j < 2 ^ 31 by omega), g1.2.2.1 i hi, g1.2.2.2.1 j hj, g1.2.2.2.2 i j hi hj, cif_t hmp, nI_clamp (show pkI V 0 i < 2 ^ 31 by omega), nI_clamp (show pkI V 1 j < 2 ^ 31 by omega), hV2 96 (by decide) (by decide), hV2 94 (by decide) (by decide), ehb, ehg, nI_clamp (show hN V (pkI V 0 i) < 2 ^ 31 by omega)]
          refine ⟨vp_in_nI (by omega) (by decide), by rw [e]; exact vp_in_nI (by omega) (by decide), vp_in_nI (by omega) (by decide), vp_in_nI (by omega) (by decide), ?_⟩
          have ef : bI (¬ ((V 94 (hN V (pkI V 0 i)) >>> (nI (hN V (pkI V 1 j)) &&& 31)) &&& 1) = 0) = cif (fdA V i j) 1 0 := by
            by_cases cf : fdA V i j
            · rw [cif_t cf]; exact bI_t (fun q => (bit_0 _ (by omega)).mp q cf)
            · rw [cif_f cf]; exact bI_f (fun q => q ((bit_0 _ (by omega)).mpr cf))
          rw [ef]
          rintro y13 rfl
          refine ⟨vp_in_nI (by omega) (by decide), ?_⟩
          rintro y15 rfl
          exact ih
    exact K 0 (by omega)
  · have fin := hQ (uI I 83 0 0) L FrM.u
    unfold bestA at fin
    rw [cif_f (fun e => c (hr.mpr e))] at fin
    exact fin
end BP
