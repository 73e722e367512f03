/-! the query count -/
theorem pct_or {p q : Nat → Prop} (hd : ∀ k, ¬ (p k ∧ q k)) : ∀ n, pct p n + pct q n = pct (fun k => p k ∨ q k) n := by
  intro n
  induction n with
  | zero => rfl
  | succ n ih =>
    by_cases c : p n
    · rw [pct_y c, pct_n (p := q) (fun e => hd n ⟨c, e⟩), pct_y (p := fun k => p k ∨ q k) (Or.inl c)]; omega
    · by_cases c2 : q n
      · rw [pct_n c, pct_y (p := q) c2, pct_y (p := fun k => p k ∨ q k) (Or.inr c2)]; omega
      · rw [pct_n c, pct_n (p := q) c2, pct_n (p := fun k => p k ∨ q k) (fun e => e.elim c c2)]; omega
noncomputable def csA (V : mI) : Nat → Int32
  | 0 => 0
  | n + 1 => csA V n + V 93 n
def feN (V : mI) (n : Nat) : Nat := fb_sm (fun i => fb_ct (fdB V i) i) n
def feD (V : mI) (n : Nat) : Nat := fb_sm (fun i => fb_ct (fdB V i) 8) n
theorem fe_sq {B : Nat → Nat → Bool} {m : Nat} (hs : ∀ i j, i < m → j < m → B i j = B j i) (hd : ∀ i, i < m → B i i = false) : ∀ n, n ≤ m → fb_sm (fun i => fb_ct (B i) n) n = 2 * fb_sm (fun i => fb_ct (B i) i) n := by
  intro n
  induction n with
  | zero => intro _; rfl
  | succ n ih =>
    intro hn
    rw [fb_sm_succ, fb_sm_succ]
    have e1 : fb_sm (fun i => fb_ct (B i) (n + 1)) n = fb_sm (fun i => fb_ct (B i) n + (if B i n then 1 else 0)) n := rfl
    have e2 : ∀ k, fb_sm (fun i => if B i n then 1 else 0) k = fb_ct (fun i => B i n) k := by
      intro k
      induction k with
      | zero => rfl
      | succ k ih => rw [fb_sm_succ, fb_ct_succ, ih]
    have e3 : fb_ct (fun i => B i n) n = fb_ct (B n) n := fb_ct_cong (fun k hk => hs k n (by omega) (by omega))
    rw [e1, fb_sm_add, ih (by omega), e2, e3, fb_ct_succ, hd n (by omega)]
    simp
    omega
theorem fe_tail {p : Nat → Bool} {n : Nat} : ∀ m, (∀ j, n ≤ j → p j = false) → fb_ct p (n + m) = fb_ct p n := by
  intro m h
  induction m with
  | zero => rfl
  | succ m ih =>
    have : n + (m + 1) = n + m + 1 := by omega
    rw [this, fb_ct_succ, ih, h _ (by omega)]; rfl
theorem fe_two {V : mI} (w : Wf V) : feD V (cH V) = 2 * feN V (cH V) := by
  have n8 := w.H.n8
  have e : feD V (cH V) = fb_sm (fun i => fb_ct (fdB V i) (cH V)) (cH V) := by
    unfold feD
    refine fb_sm_cong fun k hk => ?_
    have := fe_tail (p := fdB V k) (n := cH V) (8 - cH V) (fun j hj => by
      cases c : fdB V k j with
      | false => rfl
      | true => have := (w.H.fb k j (by omega) c).2; omega)
    rw [show cH V + (8 - cH V) = 8 by omega] at this
    exact this
  rw [e]
  exact fe_sq (fun i j hi hj => w.H.fs i j (by omega) (by omega)) (fun i hi => w.H.fd i (by omega)) _ (Nat.le_refl _)
theorem feN_le {V : mI} {n : Nat} (h : n ≤ 8) : feN V n ≤ n * 8 := fb_sm_bound (fun k hk => Nat.le_trans (fb_ct_le _ _) (by omega))
theorem feD_le {V : mI} {n : Nat} : feD V n ≤ n * 8 := fb_sm_bound (fun k _ => fb_ct_le _ _)
theorem half_ok : ∀ k, k < 65 → nI (2 * k) / 2 = nI k := by decide +kernel
/-- a word of feuds is a small number with the same bits -/
theorem fw_ok {V : mI} (w : Wf V) {i : Nat} (hi : i < 8) : ∃ t, t < 256 ∧ V 94 i = nI t ∧ pcN t = fb_ct (fdB V i) 8 := by
  have n8 := w.H.n8
  have tb : ∀ j, (V 94 i).toBitVec.toNat.testBit j = fdB V i j := fun j => rfl
  have hlt : (V 94 i).toBitVec.toNat < 2 ^ 8 := Nat.lt_pow_two_of_testBit _ fun j hj => by
    rw [tb]
    cases c : fdB V i j with
    | false => rfl
    | true => have := (w.H.fb i j hi c).2; omega
  refine ⟨(V 94 i).toBitVec.toNat, hlt, ?_, ?_⟩
  · refine b_ext fun j hj => ?_
    have : (nI (V 94 i).toBitVec.toNat).toBitVec = (V 94 i).toBitVec := by
      unfold nI
      rw [Int32.toBitVec_ofNat']
      simp
    unfold bt
    rw [this]
  · unfold pcN
    exact fb_ct_cong fun k _ => tb k

noncomputable def cntQ (V : mI) (x : Int32) : Int32 := if x = 0 then V 90 0 else if x = 1 then V 95 0 else if x = 2 then V 104 0 else if x = 3 then V 88 0 else if x = 4 then V 106 0 else if x = 5 then nI (pct (fun m => V 109 m = 0 ∨ V 109 m = 1) (cM V)) else if x = 6 then nI (pct (fun m => V 109 m = 2) (cM V)) else if x = 7 then nI (feN V (cH V)) else if x = 8 then csA V (cH V) else if x = 9 then nI (pct (fun p => V 97 p = 0 ∧ frA V p) (cP V)) else if x = 10 then nI (pct (fun p => V 97 p = 1 ∧ frA V p) (cP V)) else if x = 11 then nI (pct (ltA V) (cM V)) else (-100)
section CN
variable {E : Envt} {d : Nat} {Q : Pst} {h : mS} {I V : mI} {L : mL}
theorem c_howMany (q : CQ h I V) {x : Int32} (hQ : Q (some (.int (nI (pct (fun m => V 109 m = x) (cM V))))) h I L) : (CT E mX4_howMany d 0 0 [.ref (eB E + 24), .int x] h I L Q) := by
  have n30 := q.w.M.n30
  refine w_X4_howMany q.s _ ?_
  have K : ∀ k, k ≤ cM V → (J E mX4_howMany d Q 0 0 4 [some (.ref (eB E + 24)), some (.int x), some (.int (nI (pct (fun m => V 109 m = x) k))), some (.int (nI k))] [] h I L) := by
    refine dn (cM V) ?_ ?_
    · exact w_X4_howMany_4 q.s _ _ _ (br_t (by rw [bM_n q.b, q.w.M.n]; exact nI_le (Nat.le_refl _) (by omega)) hQ)
    · intro k hk ih
      refine w_X4_howMany_4 q.s _ _ _ (br_f (by rw [bM_n q.b, q.w.M.n]; exact nI_ge hk (by omega)) ⟨vp_in_nI (by omega) (by decide), ?_⟩)
      rw [nI_clamp (by omega), bM_sta q.b k (by omega), nI_1 k]
      by_cases c : V 109 k = x
      · rw [if_pos c, nI_1]
        rw [pct_y (p := fun m => V 109 m = x) c] at ih
        exact ih
      · rw [if_neg c]
        rw [pct_n (p := fun m => V 109 m = x) c] at ih
        exact ih
  exact K 0 (by omega)
theorem c_allFeuds (q : CQ h I V) (hQ : Q (some (.int (nI (feN V (cH V))))) h I L) : (CT E mX1_allFeuds (d + 1) 0 0 [.ref (eB E + 2)] h I L Q) := by
  have n8 := q.w.H.n8
  have hle := feN_le (V := V) n8
  refine w_X1_allFeuds q.s ?_
  have K : ∀ k, k ≤ cH V → (J E mX1_allFeuds (d + 1) Q 0 0 4 [some (.ref (eB E + 2)), some (.int (nI (feD V k))), some (.int (nI k))] [] h I L) := by
    refine dn (cH V) ?_ ?_
    · refine w_X1_allFeuds_4 q.s _ _ (br_t (by rw [bH_n q.b, q.w.H.n]; exact nI_le (Nat.le_refl _) (by omega)) ?_)
      rw [fe_two q.w, half_ok _ (by omega)]
      exact hQ
    · intro k hk ih
      refine w_X1_allFeuds_4 q.s _ _ (br_f (by rw [bH_n q.b, q.w.H.n]; exact nI_ge hk (by omega)) ⟨vp_in_nI (by omega) (by decide), ?_⟩)
      obtain ⟨t, t1, t2, t3⟩ := fw_ok q.w (i := k) (by omega)
      rw [nI_clamp (by omega), bH_feud q.b k (by omega), t2]
      refine c_bitCount q.s t1 (qi_i ?_)
      rw [t3, nI_1 k, nI_add]
      exact ih
  exact K 0 (by omega)
theorem c_allCoins (q : CQ h I V) (hQ : Q (some (.int (csA V (cH V)))) h I L) : (CT E mX1_allCoins d 0 0 [.ref (eB E + 2)] h I L Q) := by
  have n8 := q.w.H.n8
  refine w_X1_allCoins q.s ?_
  have K : ∀ k, k ≤ cH V → (J E mX1_allCoins d Q 0 0 4 [some (.ref (eB E + 2)), some (.int (csA V k)), some (.int (nI k))] [] h I L) := by
    refine dn (cH V) ?_ ?_
    · exact w_X1_allCoins_4 q.s _ _ (br_t (by rw [bH_n q.b, q.w.H.n]; exact nI_le (Nat.le_refl _) (by omega)) hQ)
    · intro k hk ih
      refine w_X1_allCoins_4 q.s _ _ (br_f (by rw [bH_n q.b, q.w.H.n]; exact nI_ge hk (by omega)) ⟨vp_in_nI (by omega) (by decide), ?_⟩)
      rintro y rfl
      rw [nI_clamp (by omega), bH_coin q.b k (by omega), nI_1 k]
      exact ih
  exact K 0 (by omega)
theorem c_allFree (q : CQ h I V) {x : Int32} (hQ : Q (some (.int (nI (pct (fun p => V 97 p = x ∧ frA V p) (cP V))))) h I L) : (CT E mX7_allFree (d + 1) 0 0 [.ref (eB E + 7), .int x] h I L Q) := by
  have n20 := q.w.P.n20
  refine w_X7_allFree q.s _ ?_
  have K : ∀ k, k ≤ cP V → (J E mX7_allFree (d + 1) Q 0 0 4 [some (.ref (eB E + 7)), some (.int x), some (.int (nI (pct (fun p => V 97 p = x ∧ frA V p) k))), some (.int (nI k))] [] h I L) := by
    refine dn (cP V) ?_ ?_
    · exact w_X7_allFree_4 q.s _ _ _ (br_t (by rw [bP_n q.b, q.w.P.n]; exact nI_le (Nat.le_refl _) (by omega)) hQ)
    · intro k hk ih
      have hfr := c_free q.b q.w hk
      refine w_X7_allFree_4 q.s _ _ _ (br_f (by rw [bP_n q.b, q.w.P.n]; exact nI_ge hk (by omega)) ⟨vp_in_nI (by omega) (by decide), fun _ => vp_in_nI (by omega) (by decide), ?_⟩)
      rintro y rfl
      rw [nI_clamp (by omega), bP_kin q.b k (by omega), nI_1 k]
      by_cases c : V 97 k = x
      · rw [if_pos c]
        by_cases c2 : frA V k
        · rw [if_pos (hfr.mpr c2), nI_1]
          rw [pct_y (p := fun p => V 97 p = x ∧ frA V p) ⟨c, c2⟩] at ih
          exact ih
        · rw [if_neg (fun e => c2 (hfr.mp e))]
          rw [pct_n (p := fun p => V 97 p = x ∧ frA V p) (fun e => c2 e.2)] at ih
          exact ih
      · rw [if_neg c]
        rw [pct_n (p := fun p => V 97 p = x ∧ frA V p) (fun e => c e.1)] at ih
        exact ih
  exact K 0 (by omega)
theorem c_allLate (q : CQ h I V) (hQ : ∀ I', FrC I I' → Kc I' V → Q (some (.int (nI (pct (ltA V) (cM V))))) h I' L) : (CT E mX2_allLate (d + 6) 0 0 [.ref (eB E + 63)] h I L Q) := by
  have n30 := q.w.M.n30
  refine w_X2_allLate q.s ?_
  have K : ∀ k, k ≤ cM V → ∀ I', FrC I I' → Kc I' V → (J E mX2_allLate (d + 6) Q 0 0 4 [some (.ref (eB E + 63)), some (.int (nI (pct (ltA V) k))), some (.int (nI k))] [] h I' L) := by
    refine dn (cM V) ?_ ?_
    · intro I' f' k'
      have q' : CQ h I' V := q.fr f' k'
      exact w_X2_allLate_4 q.s _ _ (br_t (by rw [bM_n q'.b, q.w.M.n]; exact nI_le (Nat.le_refl _) (by omega)) (hQ I' f' k'))
    · intro k hk ih I' f' k'
      have q' : CQ h I' V := q.fr f' k'
      refine w_X2_allLate_4 q.s _ _ (br_f (by rw [bM_n q'.b, q.w.M.n]; exact nI_ge hk (by omega)) ?_)
      refine c_isLate q' hk (fun I2 j2 k2 => qi_i ?_)
      have ih := ih I2 (FrC.tr f' j2.fr) k2
      rw [nI_1 k]
      by_cases c : ltA V k
      · rw [cif_t c, if_neg (by decide), nI_1]
        rw [pct_y c] at ih
        exact ih
      · rw [cif_f c, if_pos rfl]
        rw [pct_n c] at ih
        exact ih
  exact K 0 (by omega) I FrC.rf q.k
theorem c_count (q : CQ h I V) {x : Int32} (hQ : ∀ I', FrC I I' → Kc I' V → Q (some (.int (cntQ V x))) h I' L) : (CT E mX11_count (d + 7) 0 0 [.ref (eB E + 0), .int x] h I L Q) := by
  have hQ0 := hQ I FrC.rf q.k
  refine w_X11_count q.s _ ?_
  rw [bH_n q.b, bP_n q.b, bN_n q.b, bS_y q.b, bM_n q.b]
  refine ⟨fun e => ?_, fun e => ?_, fun e => ?_, fun e => ?_, fun e => ?_, fun e => ?_, fun e => ?_, fun e => ?_, fun e => ?_, fun e => ?_, fun e => ?_, fun e => ?_, fun n0 n1 n2 n3 n4 n5 n6 n7 n8 n9 n10 n11 => ?_⟩
  · subst e; exact hQ0
  · subst e; exact hQ0
  · subst e; exact hQ0
  · subst e; exact hQ0
  · subst e; exact hQ0
  · subst e
    refine c_howMany q (qi_i (c_howMany q (qi_i ?_)))
    rw [nI_add, pct_or (fun k e => by rw [e.1] at e; exact absurd e.2 (by decide))]
    exact hQ0
  · subst e; exact c_howMany q (qi_i hQ0)
  · subst e; exact c_allFeuds q (qi_i hQ0)
  · subst e; exact c_allCoins q (qi_i hQ0)
  · subst e; exact c_allFree q (qi_i hQ0)
  · subst e; exact c_allFree q (qi_i hQ0)
  · subst e; exact c_allLate q (fun I' f' k' => qi_i (hQ I' f' k'))
  · have et : cntQ V x = (-100) := by unfold cntQ; rw [if_neg n0, if_neg n1, if_neg n2, if_neg n3, if_neg n4, if_neg n5, if_neg n6, if_neg n7, if_neg n8, if_neg n9, if_neg n10, if_neg n11]
    rw [et] at hQ0; exact hQ0
theorem m_cnt109 (hs : SL h) (w : Wf V) (hV : MV I V) {x : Int32} {p : Nat → Prop} (hp : (x = 5 ∧ p = (fun m => V 109 m = 0 ∨ V 109 m = 1)) ∨ (x = 6 ∧ p = fun m => V 109 m = 2) ∨ (x = 11 ∧ p = ltA V)) (hQ : ∀ I', FrM I I' → Q (some (.int (nI (pct p (cM V))))) h I' L) : (J E mX12_count (d + 4) Q 0 0 109 [some (.ref (eB E + 83)), some (.int x), some (.int 0), some (.int 0), none] [] h I L) := by
  have n30 := w.M.n30
  have K : ∀ k, k ≤ cM V → ∀ I', FrM I I' → (J E mX12_count (d + 4) Q 0 0 109 [some (.ref (eB E + 83)), some (.int x), some (.int (nI (pct p k))), some (.int (nI k)), none] [] h I' L) := by
    refine dn (cM V) ?_ ?_
    · intro I' f'
      exact w_X12_count_109 hs _ _ _ (br_t (by rw [(hV.fr f') 106 (by decide) (by decide), w.M.n]; exact nI_le (Nat.le_refl _) (by omega)) (hQ I' f'))
    · intro k hk ih I' f'
      have hV' := hV.fr f'
      refine w_X12_count_109 hs _ _ _ (br_f (by rw [hV' 106 (by decide) (by decide), w.M.n]; exact nI_ge hk (by omega)) ?_)
      rw [nI_clamp (by omega), hV' 109 (by decide) (by decide), nI_1 k]
      rcases hp with ⟨rfl, rfl⟩ | ⟨rfl, rfl⟩ | ⟨rfl, rfl⟩
      · refine br_t rfl ⟨vp_in_nI (by omega) (by decide), ?_⟩
        rintro y rfl
        have ih := ih I' f'
        by_cases c : V 109 k = 0 ∨ V 109 k = 1
        · rw [bI_t c, nI_1]
          rw [pct_y (p := fun m => V 109 m = 0 ∨ V 109 m = 1) c] at ih
          exact ih
        · rw [bI_f c]
          rw [pct_n (p := fun m => V 109 m = 0 ∨ V 109 m = 1) c] at ih
          simpa using ih
      · refine br_f (by decide) (br_t rfl ⟨vp_in_nI (by omega) (by decide), ?_⟩)
        rintro y rfl
        have ih := ih I' f'
        by_cases c : V 109 k = 2
        · rw [bI_t c, nI_1]
          rw [pct_y (p := fun m => V 109 m = 2) c] at ih
          exact ih
        · rw [bI_f c]
          rw [pct_n (p := fun m => V 109 m = 2) c] at ih
          simpa using ih
      · refine br_f (by decide) (br_f (by decide) ?_)
        refine m_isLate hs w hV' hk (fun I2 l2 => qi_i ?_)
        rintro y rfl
        have ih := ih I2 (FrM.tr f' l2.fr)
        rw [bI_cif]
        by_cases c : ltA V k
        · rw [cif_t c, nI_1]
          rw [pct_y c] at ih
          exact ih
        · rw [cif_f c]
          rw [pct_n c] at ih
          simpa using ih
  exact K 0 (by omega) I (FrM.rf)
theorem m_cnt186 (hs : SL h) (w : Wf V) (hV : MV I V) (hQ : Q (some (.int (nI (feN V (cH V))))) h I L) : (J E mX12_count (d + 4) Q 0 0 186 [some (.ref (eB E + 83)), some (.int 7), some (.int 0), some (.int 0), none] [] h I L) := by
  have n8 := w.H.n8
  have K : ∀ k, k ≤ cH V → (J E mX12_count (d + 4) Q 0 0 186 [some (.ref (eB E + 83)), some (.int 7), some (.int (nI (feN V k))), some (.int (nI k)), none] [] h I L) := by
    refine dn (cH V) ?_ ?_
    · exact w_X12_count_186 hs _ _ _ (br_t (by rw [hV 90 (by decide) (by decide), w.H.n]; exact nI_le (Nat.le_refl _) (by omega)) hQ)
    · intro k hk ih
      refine w_X12_count_186 hs _ _ _ (br_f (by rw [hV 90 (by decide) (by decide), w.H.n]; exact nI_ge hk (by omega)) ?_)
      have K2 : ∀ j, j ≤ k → (J E mX12_count (d + 4) Q 0 0 199 [some (.ref (eB E + 83)), some (.int 7), some (.int (nI (feN V k + fb_ct (fdB V k) j))), some (.int (nI k)), some (.int (nI j))] [] h I L) := by
        refine dn k ?_ ?_
        · refine w_X12_count_199 hs _ _ _ _ (br_t (nI_le (Nat.le_refl _) (by omega)) ?_)
          rw [nI_1 k]
          exact ih
        · intro j hj ihj
          refine w_X12_count_199 hs _ _ _ _ (br_f (nI_ge hj (by omega)) ⟨vp_in_nI (by omega) (by decide), ?_⟩)
          rintro y rfl
          rw [nI_clamp (by omega), hV 94 (by decide) (by decide), nI_1 j]
          rw [fb_ct_succ] at ihj
          by_cases c : fdB V k j = true
          · have cb : ¬ ((V 94 k >>> (nI j &&& 31)) &&& 1) = 0 := fun e => (bit_0 (V 94 k) (j := j) (by omega)).mp e c
            rw [bI_t cb, nI_1]
            rw [c] at ihj
            exact ihj
          · have cb : ¬ ¬ ((V 94 k >>> (nI j &&& 31)) &&& 1) = 0 := fun e => e ((bit_0 (V 94 k) (j := j) (by omega)).mpr c)
            rw [bI_f cb]
            rw [if_neg c] at ihj
            simpa using ihj
      exact K2 0 (by omega)
  exact K 0 (by omega)
theorem m_cnt239 (hs : SL h) (w : Wf V) (hV : MV I V) (hQ : Q (some (.int (csA V (cH V)))) h I L) : (J E mX12_count (d + 4) Q 0 0 239 [some (.ref (eB E + 83)), some (.int 8), some (.int 0), some (.int 0), none] [] h I L) := by
  have n8 := w.H.n8
  have K : ∀ k, k ≤ cH V → (J E mX12_count (d + 4) Q 0 0 239 [some (.ref (eB E + 83)), some (.int 8), some (.int (csA V k)), some (.int (nI k)), none] [] h I L) := by
    refine dn (cH V) ?_ ?_
    · exact w_X12_count_239 hs _ _ _ (br_t (by rw [hV 90 (by decide) (by decide), w.H.n]; exact nI_le (Nat.le_refl _) (by omega)) hQ)
    · intro k hk ih
      refine w_X12_count_239 hs _ _ _ (br_f (by rw [hV 90 (by decide) (by decide), w.H.n]; exact nI_ge hk (by omega)) ⟨vp_in_nI (by omega) (by decide), ?_⟩)
      rintro y rfl
      rw [nI_clamp (by omega), hV 93 (by decide) (by decide), nI_1 k]
      exact ih
  exact K 0 (by omega)
theorem m_cnt268 (hs : SL h) (w : Wf V) (hV : MV I V) {x z : Int32} (hx : x - 9 = z) (hQ : Q (some (.int (nI (pct (fun p => V 97 p = z ∧ frA V p) (cP V))))) h I L) : (J E mX12_count (d + 4) Q 0 0 268 [some (.ref (eB E + 83)), some (.int x), some (.int 0), some (.int 0), none] [] h I L) := by
  have n20 := w.P.n20
  have K : ∀ k, k ≤ cP V → (J E mX12_count (d + 4) Q 0 0 268 [some (.ref (eB E + 83)), some (.int x), some (.int (nI (pct (fun p => V 97 p = z ∧ frA V p) k))), some (.int (nI k)), none] [] h I L) := by
    refine dn (cP V) ?_ ?_
    · exact w_X12_count_268 hs _ _ _ (br_t (by rw [hV 95 (by decide) (by decide), w.P.n]; exact nI_le (Nat.le_refl _) (by omega)) hQ)
    · intro k hk ih
      refine w_X12_count_268 hs _ _ _ (br_f (by rw [hV 95 (by decide) (by decide), w.P.n]; exact nI_ge hk (by omega)) ⟨vp_in_nI (by omega) (by decide), ?_⟩)
      rw [nI_clamp (by omega), hV 97 (by decide) (by decide), nI_1 k, hx]
      refine br_c (fun c => ?_) (fun c => ?_)
      · refine m_isFree hs w hV (by omega) (qi_i ?_)
        rintro y rfl
        rw [bI_cif]
        by_cases c2 : frA V k
        · rw [cif_t c2, nI_1]
          rw [pct_y (p := fun p => V 97 p = z ∧ frA V p) ⟨c, c2⟩] at ih
          exact ih
        · rw [cif_f c2]
          rw [pct_n (p := fun p => V 97 p = z ∧ frA V p) (fun e => c2 e.2)] at ih
          simpa using ih
      · rw [pct_n (p := fun p => V 97 p = z ∧ frA V p) (fun e => c e.1)] at ih
        simpa using ih
  exact K 0 (by omega)
theorem m_count (hs : SL h) (w : Wf V) (hV : MV I V) {x : Int32} (hQ : ∀ I', FrM I I' → Q (some (.int (cntQ V x))) h I' L) : (CT E mX12_count (d + 4) 0 0 [.ref (eB E + 83), .int x] h I L Q) := by
  have hQ0 := hQ _ (FrM.u0 (I := I))
  have hV1 : MV (uI I 83 0 0) V := hV.fr FrM.u0
  refine w_X12_count hs _ ?_
  rw [hV 90 (by decide) (by decide), hV 95 (by decide) (by decide), hV 104 (by decide) (by decide), hV 88 (by decide) (by decide), hV 106 (by decide) (by decide)]
  refine ⟨fun e => ?_, fun e => ?_, fun e => ?_, fun e => ?_, fun e => ?_, fun e => ?_, fun e => ?_, fun e => ?_, fun e => ?_, fun e => ?_, fun e => ?_, fun e => ?_, fun n0 n1 n2 n3 n4 n5 n6 n7 n8 n9 n10 n11 => ?_⟩
  · subst e; exact hQ0
  · subst e; exact hQ0
  · subst e; exact hQ0
  · subst e; exact hQ0
  · subst e; exact hQ0
  · subst e; exact m_cnt109 hs w hV1 (Or.inl ⟨rfl, rfl⟩) (fun I' f' => hQ I' (FrM.tr FrM.u0 f'))
  · subst e; exact m_cnt109 hs w hV1 (Or.inr (Or.inl ⟨rfl, rfl⟩)) (fun I' f' => hQ I' (FrM.tr FrM.u0 f'))
  · subst e; exact m_cnt186 hs w hV1 hQ0
  · subst e; exact m_cnt239 hs w hV1 hQ0
  · subst e; exact m_cnt268 hs w hV1 (by decide) hQ0
  · subst e; exact m_cnt268 hs w hV1 (by decide) hQ0
  · subst e; exact m_cnt109 hs w hV1 (Or.inr (Or.inr ⟨rfl, rfl⟩)) (fun I' f' => hQ I' (FrM.tr FrM.u0 f'))
  · have et : cntQ V x = (-100) := by unfold cntQ; rw [if_neg n0, if_neg n1, if_neg n2, if_neg n3, if_neg n4, if_neg n5, if_neg n6, if_neg n7, if_neg n8, if_neg n9, if_neg n10, if_neg n11]
    rw [et] at hQ0; exact hQ0
end CN
