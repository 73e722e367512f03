/-! the component settles the best pairing -/
noncomputable def gvN (V : mI) (i j : Nat) : Nat := min 159984 (gfA V i j).toNatClampNeg
noncomputable def fvB (V : mI) (i j : Nat) : Bool := fdB V (hN V (pkI V 0 i)) (hN V (pkI V 1 j))
noncomputable def wvM (V : mI) (i j : Nat) : Int := 100000000000 + (if fvB V i j then 1000000000 else 0) - gvN V i j
noncomputable def wvC (V : mI) (i j : Nat) : Int := 20000000 + (if fvB V i j then 2000000 else 0) - gvN V i j
theorem wv_ok (V : mI) : vOK (wvM V) (wvC V) := fun i j => ⟨gvN V i j, fvB V i j, by unfold gvN; omega, rfl, rfl⟩
theorem gv_ok {V : mI} (w : Wf V) {i j : Nat} (hi : i < pkC V 0) (hj : j < pkC V 1) : gfA V i j = nI (gvN V i j) ∧ gvN V i j ≤ 159984 := by
  have n20 := w.P.n20
  obtain ⟨b1, -, -⟩ := pk_ok hi
  obtain ⟨g1, -, -⟩ := pk_ok hj
  obtain ⟨s, h1, h2⟩ := mgA_ok w (b := pkI V 0 i) (g := pkI V 1 j) (by omega) (by omega)
  have h2 : gfA V i j = nI s := h2
  unfold gvN
  rw [h2, nI_clamp (by omega)]
  exact ⟨by congr 1; omega, by omega⟩
noncomputable def bsG (V : mI) (i : Nat) : Int32 := bsA (mpA V) (wvM V) (pkC V 0) (pkC V 1) i
theorem bsG_c (V : mI) (i : Nat) : bsG V i = (-1) ∨ ∃ j, j < pkC V 1 ∧ bsG V i = nI j ∧ mpA V i j := by
  rcases chI_c (mpA V) (wvM V) (pkC V 0) (pkC V 1) i (bsT (mpA V) (wvM V) (pkC V 0) (pkC V 1) i) with e | ⟨j, h1, h2, h3⟩
  · exact Or.inl e
  · exact Or.inr ⟨j, h1, h2, h3.1⟩
def bcF (x : Int32) : Int32 :=
  let y1 := x - ((x.toUInt32 >>> ((1 : Int32).toUInt32 &&& Int32.toUInt32 31)).toInt32 &&& 1431655765)
  let y2 := (y1 &&& 858993459) + ((y1.toUInt32 >>> ((2 : Int32).toUInt32 &&& Int32.toUInt32 31)).toInt32 &&& 858993459)
  let y3 := (y2 + (y2.toUInt32 >>> ((4 : Int32).toUInt32 &&& Int32.toUInt32 31)).toInt32) &&& 252645135
  let y4 := y3 + (y3.toUInt32 >>> ((8 : Int32).toUInt32 &&& Int32.toUInt32 31)).toInt32
  let y5 := y4 + (y4.toUInt32 >>> ((16 : Int32).toUInt32 &&& Int32.toUInt32 31)).toInt32
  y5 &&& 63
theorem bc_eq : ∀ t, t < 256 → bcF (nI t) = nI (pcN t) := by decide +kernel
theorem pow8 {n : Nat} (h : n ≤ 8) : 2 ^ n ≤ 256 := by
  have : 2 ^ n ≤ 2 ^ 8 := Nat.pow_le_pow_right (by omega) h
  simpa using this
section BS
variable {E : Envt} {d : Nat} {Q : Pst} {h : mS} {I V : mI} {L : mL}
theorem c_bitCount (hs : SL h) {t : Nat} (ht : t < 256) (hQ : Q (some (.int (nI (pcN t)))) h I L) : (CT E mJ6_bitCount_0f7a4 d 0 0 [.int (nI t)] h I L Q) := by
  refine w_J6_bitCount_0f7a4 hs _ ?_
  rintro y1 rfl y2 rfl y3 rfl y4 rfl y5 rfl
  have := bc_eq t ht
  unfold bcF at this
  dsimp only at this
  rw [this]
  exact hQ
/-- the table of worths is right from bride i on -/
def WC (V : mI) (w : Nat → Int32) (i : Nat) : Prop := ∀ k t, i ≤ k → k ≤ pkC V 0 → t < 2 ^ pkC V 1 → (pcN t ≤ k ∨ k = pkC V 0) → (w (256 * k + t)).toInt = dpF (mpA V) (wvC V) (pkC V 0) (pkC V 1) (pkC V 0 - k) t
theorem wvC_mem (w : Wf V) (hG : GA I V) {i j : Nat} (hi : i < pkC V 0) (hj : j < pkC V 1) : (I 71 (8 * i + j)).toInt = wvC V i j := by
  obtain ⟨-, -, -, e⟩ := hG.2.2.2.2 i j hi hj
  obtain ⟨g1, g2⟩ := gv_ok w hi hj
  rw [e, g1]
  unfold wvC
  have a1 : ((20000000 : Int32) - nI (gvN V i j)).toInt = 20000000 - (gvN V i j : Int) := by
    rw [fb_subI] <;> rw [nI_toInt (by omega)] <;> rw [show (20000000 : Int32).toInt = 20000000 by decide] <;> omega
  by_cases c : fdA V i j
  · rw [cif_t c, if_pos (show fvB V i j = true from c), fb_addI] <;> rw [a1, show (2000000 : Int32).toInt = 2000000 by decide] <;> omega
  · rw [cif_f c, if_neg (show ¬ fvB V i j = true from c), fb_addI] <;> rw [a1, show (0 : Int32).toInt = 0 by decide] <;> omega
theorem c_worthSum (w : Wf V) (hG : GA I V) {i j t : Nat} (hi : i < pkC V 0) (hj : j < pkC V 1) (ht : t < 2 ^ pkC V 1) (hpc : pcN t ≤ i) (hW : WC V (I 75) (i + 1)) :
    (I 71 (8 * i + j) + I 75 (256 * (i + 1) + (t ||| 2 ^ j))).toInt = wvC V i j + dpF (mpA V) (wvC V) (pkC V 0) (pkC V 1) (pkC V 0 - (i + 1)) (t ||| 2 ^ j) := by
  have p0 : pkC V 0 ≤ 8 := by unfold pkC; omega
  have p1 : pkC V 1 ≤ 8 := by unfold pkC; omega
  have h256 := pow8 p1
  have hor : t ||| 2 ^ j < 2 ^ pkC V 1 := Nat.or_lt_two_pow ht (Nat.pow_lt_pow_right (by omega) hj)
  have hpc2 := pcN_or t (by omega) j (by omega)
  have e1 := wvC_mem w hG hi hj
  have e2 := hW (i + 1) (t ||| 2 ^ j) (Nat.le_refl _) (by omega) hor (Or.inl (by omega))
  have b2 := T3_b (dp_rel (al := mpA V) (nb := pkC V 0) (ng := pkC V 1) (wv_ok V) (pkC V 0 - (i + 1)) (by omega) (t ||| 2 ^ j)) (by omega)
  have g2 := (gv_ok w hi hj).2
  have b1 : 0 ≤ wvC V i j ∧ wvC V i j ≤ 22000000 := by unfold wvC; split <;> omega
  rw [fb_addI (by omega) (by omega), e1, e2]
theorem c_mostWorth (hs : SL h) (w : Wf V) (hG : GA I V) {i t : Nat} (hi : i < pkC V 0) (ht : t < 2 ^ pkC V 1) (hpc : pcN t ≤ i) (hW : WC V (I 75) (i + 1)) (hQ : ∀ x : Int32, x.toInt = dpF (mpA V) (wvC V) (pkC V 0) (pkC V 1) (pkC V 0 - i) t → Q (some (.int x)) h I L) : (CT E mX6_mostWorth (d + 1) 0 0 [.ref (eB E + 65), .int (nI i), .int (nI t)] h I L Q) := by
  have p0 : pkC V 0 ≤ 8 := by unfold pkC; omega
  have p1 : pkC V 1 ≤ 8 := by unfold pkC; omega
  have h256 := pow8 p1
  have esh : (nI i + 1) <<< ((8 : Int32) &&& 31) = nI (256 * (i + 1)) := by rw [nI_1, shl8 (by omega)]
  refine w_X6_mostWorth hs _ _ ?_
  rw [esh, nI_add, nI_clamp (by omega)]
  refine ⟨vp_in_nI (by omega) (by decide), ?_⟩
  rintro y2 rfl
  have edp : dpF (mpA V) (wvC V) (pkC V 0) (pkC V 1) (pkC V 0 - i) t = rowF (mpA V) (wvC V) (dpF (mpA V) (wvC V) (pkC V 0) (pkC V 1) (pkC V 0 - (i + 1))) i t (pkC V 1) := by
    rw [show pkC V 0 - i = (pkC V 0 - (i + 1)) + 1 by omega, dpF]
    dsimp only
    rw [show pkC V 0 - (pkC V 0 - (i + 1) + 1) = i by omega]
  rw [edp] at hQ
  have K : ∀ j, j ≤ pkC V 1 → ∀ x : Int32, x.toInt = rowF (mpA V) (wvC V) (dpF (mpA V) (wvC V) (pkC V 0) (pkC V 1) (pkC V 0 - (i + 1))) i t j → (J E mX6_mostWorth (d + 1) Q 0 0 17 [some (.ref (eB E + 65)), some (.int (nI i)), some (.int (nI t)), some (.int x), some (.int (nI j))] [] h I L) := by
    refine dn (pkC V 1) ?_ ?_
    · intro x hx
      exact w_X6_mostWorth_17 hs _ _ _ _ (br_t (by rw [hG.2.1]; exact nI_le (Nat.le_refl _) (by omega)) (hQ x hx))
    · intro j hj ih x hx
      have ei : nI i * 8 + nI j = nI (8 * i + j) := by rw [N8, pk_mul, nI_add, Nat.mul_comm]
      have hor : t ||| 2 ^ j < 2 ^ pkC V 1 := Nat.or_lt_two_pow ht (Nat.pow_lt_pow_right (by omega) hj)
      refine w_X6_mostWorth_17 hs _ _ _ _ (br_f (by rw [hG.2.1]; exact nI_ge hj (by omega)) ?_)
      rw [esh, ei, one_shl j (by omega), fa_or, nI_add, nI_clamp (show 8 * i + j < 2 ^ 31 by omega), nI_clamp (show 256 * (i + 1) + (t ||| 2 ^ j) < 2 ^ 31 by omega), nI_1]
      refine ⟨vp_in_nI (by omega) (by decide), fun _ _ => vp_in_nI (by omega) (by decide), fun _ _ => vp_in_nI (by omega) (by decide), ?_⟩
      obtain ⟨m1, -, -, -⟩ := hG.2.2.2.2 i j hi hj
      rw [m1]
      have hsum := c_worthSum w hG hi hj ht hpc hW
      rintro y13 rfl
      refine ih _ ?_
      rw [rowF]
      by_cases c1 : mpA V i j
      · rw [cif_t c1, if_neg (show ¬ (1 : Int32) = 0 by decide)]
        by_cases c2 : t.testBit j = false
        · rw [if_pos ((bitf (by omega) (by omega)).mpr c2)]
          by_cases c3 : x < I 71 (8 * i + j) + I 75 (256 * (i + 1) + (t ||| 2 ^ j))
          · rw [if_pos c3]
            rw [fa_lt, hx, hsum] at c3
            rw [cif_t ⟨c1, c2, c3⟩]
            exact hsum
          · rw [if_neg c3]
            rw [fa_lt, hx, hsum] at c3
            rw [cif_f (fun e => c3 e.2.2)]
            exact hx
        · rw [if_neg (fun e => c2 ((bitf (by omega) (by omega)).mp e)), cif_f (fun e => c2 e.2.1)]; exact hx
      · rw [cif_f c1, if_pos rfl, cif_f (fun e => c1 e.1)]; exact hx
  refine K 0 (by omega) _ ?_
  rw [rowF]
  exact hW (i + 1) t (Nat.le_refl _) (by omega) ht (Or.inl (by omega))
theorem c_leastChoice (hs : SL h) (w : Wf V) (hG : GA I V) {i t : Nat} (hi : i < pkC V 0) (ht : t < 2 ^ pkC V 1) (hpc : pcN t ≤ i) (hW : WC V (I 75) i) (hQ : Q (some (.int (chI (mpA V) (wvC V) (pkC V 0) (pkC V 1) i t))) h I L) : (CT E mX6_leastChoice (d + 1) 0 0 [.ref (eB E + 65), .int (nI i), .int (nI t)] h I L Q) := by
  have p0 : pkC V 0 ≤ 8 := by unfold pkC; omega
  have p1 : pkC V 1 ≤ 8 := by unfold pkC; omega
  have h256 := pow8 p1
  have esh : (nI i + 1) <<< ((8 : Int32) &&& 31) = nI (256 * (i + 1)) := by rw [nI_1, shl8 (by omega)]
  refine w_X6_leastChoice hs _ _ ?_
  have K : ∀ j, j ≤ pkC V 1 → (∀ k, k < j → pB (chP (mpA V) (wvC V) (dpF (mpA V) (wvC V) (pkC V 0) (pkC V 1) (pkC V 0 - (i + 1))) (dpF (mpA V) (wvC V) (pkC V 0) (pkC V 1) (pkC V 0 - i) t) i t) k = false) → (J E mX6_leastChoice (d + 1) Q 0 0 2 [some (.ref (eB E + 65)), some (.int (nI i)), some (.int (nI t)), some (.int (nI j))] [] h I L) := by
    refine dn (pkC V 1) ?_ ?_
    · intro hno
      unfold chI at hQ
      rw [fstI_n hno] at hQ
      exact w_X6_leastChoice_2 hs _ _ _ (br_t (by rw [hG.2.1]; exact nI_le (Nat.le_refl _) (by omega)) hQ)
    · intro j hj ih hno
      have ei : nI i * 8 + nI j = nI (8 * i + j) := by rw [N8, pk_mul, nI_add, Nat.mul_comm]
      have hor : t ||| 2 ^ j < 2 ^ pkC V 1 := Nat.or_lt_two_pow ht (Nat.pow_lt_pow_right (by omega) hj)
      refine w_X6_leastChoice_2 hs _ _ _ (br_f (by rw [hG.2.1]; exact nI_ge hj (by omega)) ?_)
      rw [esh, shl8 (show i < 100 by omega), ei, one_shl j (by omega), fa_or, nI_add, nI_add, nI_clamp (show 8 * i + j < 2 ^ 31 by omega), nI_clamp (show 256 * (i + 1) + (t ||| 2 ^ j) < 2 ^ 31 by omega), nI_clamp (show 256 * i + t < 2 ^ 31 by omega), nI_1]
      obtain ⟨m1, -, -, -⟩ := hG.2.2.2.2 i j hi hj
      rw [m1]
      have hsum := c_worthSum w hG hi hj ht hpc (fun k t' h1 h2 h3 h4 => hW k t' (by omega) h2 h3 h4)
      have hcur := hW i t (Nat.le_refl _) (by omega) ht (Or.inl hpc)
      have no : ¬ chP (mpA V) (wvC V) (dpF (mpA V) (wvC V) (pkC V 0) (pkC V 1) (pkC V 0 - (i + 1))) (dpF (mpA V) (wvC V) (pkC V 0) (pkC V 1) (pkC V 0 - i) t) i t j → (J E mX6_leastChoice (d + 1) Q 0 0 2 [some (.ref (eB E + 65)), some (.int (nI i)), some (.int (nI t)), some (.int (nI (j + 1)))] [] h I L) := fun hn => ih (lt_s hno (pB_f hn))
      refine ⟨vp_in_nI (by omega) (by decide), ?_⟩
      by_cases c1 : mpA V i j
      · rw [cif_t c1]
        refine br_f (by decide) (br_c (fun c2 => ⟨vp_in_nI (by omega) (by decide), vp_in_nI (by omega) (by decide), vp_in_nI (by omega) (by decide), br_c (fun c3 => ?_) (fun c3 => no fun e => c3 ?_)⟩) (fun c2 => no fun e => c2 ((bitf (by omega) (by omega)).mpr e.2.1)))
        · rw [fa_eq, hsum, hcur] at c3
          unfold chI at hQ
          rw [fstI_y hj (pB_t ⟨c1, (bitf (by omega) (by omega)).mp c2, c3⟩) hno] at hQ
          exact hQ
        · rw [fa_eq, hsum, hcur]; exact e.2.2
      · rw [cif_f c1]
        exact br_t rfl (no fun e => c1 e.1)
  exact K 0 (by omega) (fun k hk => absurd hk (by omega))
theorem c_settleBest (hs : SL h) (w : Wf V) (hG : GA I V) (hQ : ∀ I', (∀ a, a ≠ 75 → a ≠ 76 → I' a = I a) → (∀ i, i < pkC V 0 → I' 76 i = bsG V i) → Q none h I' L) : (CT E mX6_settleBest (d + 2) 0 0 [.ref (eB E + 65)] h I L Q) := by
  have p0 : pkC V 0 ≤ 8 := by unfold pkC; omega
  have p1 : pkC V 1 ≤ 8 := by unfold pkC; omega
  have h256 := pow8 p1
  have hpos : 0 < 2 ^ pkC V 1 := Nat.two_pow_pos _
  refine w_X6_settleBest hs ?_
  refine c_fillA hs (lt76 hs) (kk76 hs) (by decide) (fun f76 _ _ => qv_i ?_)
  rw [sA_ne (by decide), hG.2.1, one_shl _ (by omega)]
  rintro y2 rfl
  have gA : ∀ I1 : mI, (∀ a, a ≠ 75 → a ≠ 76 → I1 a = I a) → GA I1 V := fun I1 f1 => by
    unfold GA
    rw [f1 65 (by decide) (by decide), f1 66 (by decide) (by decide), f1 67 (by decide) (by decide), f1 68 (by decide) (by decide), f1 69 (by decide) (by decide), f1 70 (by decide) (by decide), f1 71 (by decide) (by decide)]
    exact hG
  have K102 : ∀ I1 : mI, (∀ a, a ≠ 75 → a ≠ 76 → I1 a = I a) → WC V (I1 75) 0 → (J E mX6_settleBest (d + 2) Q 0 0 102 [some (.ref (eB E + 65)), some (.int (nI (2 ^ pkC V 1))), some (.int 0), some (.int 0)] [] h I1 L) := by
    intro I1 f1 hW
    have K : ∀ i, i ≤ pkC V 0 → ∀ f, (∀ k, k < i → f k = bsG V k) → (J E mX6_settleBest (d + 2) Q 0 0 102 [some (.ref (eB E + 65)), some (.int (nI (2 ^ pkC V 1))), some (.int (nI (bsT (mpA V) (wvM V) (pkC V 0) (pkC V 1) i))), some (.int (nI i))] [] h (sA I1 76 f) L) := by
      refine dn (pkC V 0) ?_ ?_
      · intro f hf
        refine w_X6_settleBest_102 hs _ _ _ (br_t (by rw [sA_ne (by decide), f1 65 (by decide) (by decide), hG.1]; exact nI_le (Nat.le_refl _) (by omega)) (hQ _ (fun a h1 h2 => by rw [sA_ne h2]; exact f1 a h1 h2) (by rw [sA_at]; exact hf)))
      · intro i hi ih f hf
        obtain ⟨b1, b2⟩ := bsT_ok (al := mpA V) (v := wvM V) (nb := pkC V 0) p1 i
        refine w_X6_settleBest_102 hs _ _ _ (br_f (by rw [sA_ne (by decide), f1 65 (by decide) (by decide), hG.1]; exact nI_ge hi (by omega)) ?_)
        have g1 : GA (sA I1 76 f) V := gA _ (fun a h1 h2 => by rw [sA_ne h2]; exact f1 a h1 h2)
        refine c_leastChoice hs w g1 hi b1 b2 (by rw [sA_ne (by decide)]; exact fun k t h1 h2 h3 h4 => hW k t (by omega) h2 h3 h4) (qi_i ⟨vp_in_nI (by omega) (by decide), ?_⟩)
        rw [nI_clamp (show i < 2 ^ 31 by omega), uI_sA, nI_1]
        have ec : chI (mpA V) (wvC V) (pkC V 0) (pkC V 1) i (bsT (mpA V) (wvM V) (pkC V 0) (pkC V 1) i) = bsG V i := (chI_rel (wv_ok V) p0 hi).symm
        rw [ec]
        have ih := ih (upd f i (bsG V i)) (fun k hk => by
          by_cases c : k = i
          · rw [c, upd_same']
          · rw [upd_ne' c]; exact hf k (by omega))
        have et : bsT (mpA V) (wvM V) (pkC V 0) (pkC V 1) (i + 1) = if bsG V i = (-1) then bsT (mpA V) (wvM V) (pkC V 0) (pkC V 1) i else bsT (mpA V) (wvM V) (pkC V 0) (pkC V 1) i ||| 2 ^ (bsG V i).toNatClampNeg := rfl
        rw [et] at ih
        rcases bsG_c V i with e | ⟨j, j1, j2, -⟩
        · rw [if_pos e]; rw [if_pos e] at ih; exact ih
        · have ne : ¬ bsG V i = (-1) := by rw [j2]; exact m1_nI (by omega)
          rw [if_neg ne]; rw [if_neg ne] at ih
          rw [j2, nI_clamp (by omega)] at ih
          rw [j2, one_shl j (by omega), fa_or]
          exact ih
    have := K 0 (by omega) (I1 76) (fun k hk => absurd hk (by omega))
    rw [sA_id] at this
    exact this
  have K50 : ∀ n, n ≤ pkC V 0 → ∀ f76 f75, WC V f75 n → (J E mX6_settleBest (d + 2) Q 0 0 50 [some (.ref (eB E + 65)), some (.int (nI (2 ^ pkC V 1))), some (.int (nI n - 1)), none] [] h (two I 75 f75 76 f76) L) := by
    intro n
    induction n with
    | zero =>
      intro _ f76 f75 hW
      refine w_X6_settleBest_50 hs _ _ (br_t (by decide) ?_)
      exact K102 _ (fun a h1 h2 => two_n h1 h2) (by rw [two_1]; exact hW)
    | succ n ih =>
      intro hn f76 f75 hW
      rw [nI_pred]
      refine w_X6_settleBest_50 hs _ _ (br_f (nI_pos (by omega)) ?_)
      have K56 : ∀ t, t ≤ 2 ^ pkC V 1 → ∀ f75, WC V f75 (n + 1) → (∀ t', t' < t → pcN t' ≤ n → (f75 (256 * n + t')).toInt = dpF (mpA V) (wvC V) (pkC V 0) (pkC V 1) (pkC V 0 - n) t') → (J E mX6_settleBest (d + 2) Q 0 0 56 [some (.ref (eB E + 65)), some (.int (nI (2 ^ pkC V 1))), some (.int (nI n)), some (.int (nI t))] [] h (two I 75 f75 76 f76) L) := by
        refine dn (2 ^ pkC V 1) ?_ ?_
        · intro f75 hW hr
          refine w_X6_settleBest_56 hs _ _ _ (br_t (nI_le (Nat.le_refl _) (by omega)) ?_)
          have e : nI n + (-1) = nI n - 1 := by
            rw [fa_eq]
            rw [fb_addI, fb_subI] <;> rw [nI_toInt (by omega)] <;> simp <;> omega
          rw [e]
          refine ih (by omega) f76 f75 (fun k t h1 h2 h3 h4 => ?_)
          by_cases c : k = n
          · subst c; exact hr t h3 (by omega)
          · exact hW k t (by omega) h2 h3 h4
        · intro t ht iht f75 hW hr
          refine w_X6_settleBest_56 hs _ _ _ (br_f (nI_ge ht (by omega)) ?_)
          refine c_bitCount hs (by omega) (qi_i ?_)
          rw [nI_1]
          have pc8 : pcN t ≤ 8 := fb_ct_le _ _
          by_cases c : n < pcN t
          · refine br_t (nI_lt c (by omega)) (iht f75 hW (fun t' h1 h2 => ?_))
            by_cases e : t' = t
            · subst e; omega
            · exact hr t' (by omega) h2
          · refine br_f (nI_nlt (by omega) (by omega)) ?_
            refine c_mostWorth hs w (gA _ (fun a h1 h2 => two_n h1 h2)) (by omega) ht (by omega) (by rw [two_1]; exact hW) (fun x hx => qi_i ?_)
            rw [shl8 (show n < 100 by omega), nI_add, nI_clamp (show 256 * n + t < 2 ^ 31 by omega), uI_two1]
            refine ⟨vp_in_nI (by omega) (by decide), iht _ (fun k t' h1 h2 h3 h4 => ?_) (fun t' h1 h2 => ?_)⟩
            · rw [upd_ne' (by omega)]; exact hW k t' h1 h2 h3 h4
            · by_cases e : t' = t
              · subst e; rw [upd_same']; exact hx
              · rw [upd_ne' (by omega)]; exact hr t' (by omega) h2
      exact K56 0 (by omega) f75 hW (fun t' h1 => absurd h1 (by omega))
  have K17 : ∀ t, t ≤ 2 ^ pkC V 1 → ∀ f75, (∀ t', t' < t → f75 (256 * pkC V 0 + t') = 0) → (J E mX6_settleBest (d + 2) Q 0 0 17 [some (.ref (eB E + 65)), some (.int (nI (2 ^ pkC V 1))), some (.int (nI t)), none] [] h (two I 75 f75 76 f76) L) := by
    refine dn (2 ^ pkC V 1) ?_ ?_
    · intro f75 hz
      refine w_X6_settleBest_17 hs _ _ (br_t (nI_le (Nat.le_refl _) (by omega)) ?_)
      rw [two_n (by decide) (by decide), hG.1]
      refine K50 _ (Nat.le_refl _) f76 f75 (fun k t h1 h2 h3 h4 => ?_)
      have : k = pkC V 0 := by omega
      subst this
      rw [hz t h3, Nat.sub_self]
      rfl
    · intro t ht ih f75 hz
      refine w_X6_settleBest_17 hs _ _ (br_f (nI_ge ht (by omega)) ?_)
      rw [two_n (by decide) (by decide), hG.1, shl8 (by omega), nI_add, nI_clamp (show 256 * pkC V 0 + t < 2 ^ 31 by omega), uI_two1, nI_1]
      refine ⟨vp_in_nI (by omega) (by decide), ih _ (fun t' h1 => ?_)⟩
      by_cases e : t' = t
      · rw [e, upd_same']
      · rw [upd_ne' (by omega)]; exact hz t' (by omega)
  have := K17 0 (by omega) (I 75) (fun t' h1 => absurd h1 (by omega))
  have e : two I 75 (I 75) 76 f76 = sA I 76 f76 := by
    funext a
    by_cases h1 : a = 75
    · subst h1; rw [two_1, sA_ne (by decide)]
    · by_cases h2 : a = 76
      · subst h2; rw [two_2 (by decide), sA_at]
      · rw [two_n h1 h2, sA_ne h2]
  rw [e] at this
  exact this
end BS
