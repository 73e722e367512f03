/-! the reference finds the best pairing -/
section BM
variable {E : Envt} {d : Nat} {Q : Pst} {h : mS} {I V : mI} {L : mL}
/-- the reference's table of worths from bride i on -/
def WM (V : mI) (w : Nat → Int64) (i : Nat) : Prop := ∀ k t, i ≤ k → k ≤ pkC V 0 → t < 2 ^ pkC V 1 → (w (256 * k + t)).toInt = dpF (mpA V) (wvM V) (pkC V 0) (pkC V 1) (pkC V 0 - k) t
theorem i64_toInt (x : Int32) : x.toInt64.toInt = x.toInt := by simp
theorem wvM_f (V : mI) (i j : Nat) : wvM V i j = 100000000000 + (if fvB V i j then 1000000000 else 0) - gvN V i j := rfl
theorem bring_1 {a : Int64} {D : Int} {G : Nat} (hG : G ≤ 159984) (hD : a.toInt = D) (b1 : 0 ≤ D) (b2 : D ≤ 808000000000) : (((100000000000 + 1000000000) - (nI G).toInt64) + a).toInt = 100000000000 + 1000000000 - (G : Int) + D := by
  have eg : ((nI G).toInt64).toInt = G := by rw [i64_toInt, nI_toInt (by omega)]
  have s1 : ((100000000000 : Int64) + 1000000000).toInt = 101000000000 := by decide
  have s2 : ((100000000000 : Int64) + 1000000000 - (nI G).toInt64).toInt = 101000000000 - (G : Int) := by
    rw [fb_subL (by omega) (by omega), s1, eg]
  rw [fb_addL (by omega) (by omega), s2, hD]
  omega
theorem bring_0 {a : Int64} {D : Int} {G : Nat} (hG : G ≤ 159984) (hD : a.toInt = D) (b1 : 0 ≤ D) (b2 : D ≤ 808000000000) : (((100000000000 + 0) - (nI G).toInt64) + a).toInt = 100000000000 + 0 - (G : Int) + D := by
  have eg : ((nI G).toInt64).toInt = G := by rw [i64_toInt, nI_toInt (by omega)]
  have s1 : ((100000000000 : Int64) + 0).toInt = 100000000000 := by decide
  have s2 : ((100000000000 : Int64) + 0 - (nI G).toInt64).toInt = 100000000000 - (G : Int) := by
    rw [fb_subL (by omega) (by omega), s1, eg]
  rw [fb_addL (by omega) (by omega), s2, hD]
  omega
theorem m_brings (hs : SL h) (w : Wf V) (hV : MV I V) (hG : GM I V) {i j t : Nat} (hi : i < pkC V 0) (hj : j < pkC V 1) (ht : t < 2 ^ pkC V 1) (hW : WM V (L 138) (i + 1))
    (hQ : ∀ x : Int64, (mpA V i j ∧ t.testBit j = false → x.toInt = wvM V i j + dpF (mpA V) (wvM V) (pkC V 0) (pkC V 1) (pkC V 0 - (i + 1)) (t ||| 2 ^ j)) → (¬ (mpA V i j ∧ t.testBit j = false) → x.toInt = -1) → Q (some (.long x)) h I L) : (CT E mX12_brings (d + 1) 0 0 [.ref (eB E + 83), .int (nI i), .int (nI t), .int (nI j)] h I L Q) := by
  have n20 := w.P.n20
  have p0 : pkC V 0 ≤ 8 := by unfold pkC; omega
  have p1 : pkC V 1 ≤ 8 := by unfold pkC; omega
  have h256 := pow8 p1
  have hor : t ||| 2 ^ j < 2 ^ pkC V 1 := Nat.or_lt_two_pow ht (Nat.pow_lt_pow_right (by omega) hj)
  obtain ⟨b1, -, -⟩ := pk_ok hi
  obtain ⟨g1, -, -⟩ := pk_ok hj
  obtain ⟨hb8, ehb⟩ := hN_ok w (p := pkI V 0 i) (by omega)
  obtain ⟨hg8, ehg⟩ := hN_ok w (p := pkI V 1 j) (by omega)
  have ei : 8 * nI i + nI j = nI (8 * i + j) := by rw [N8, pk_mul, nI_add]
  have m1 : (-1 : Int64).toInt = -1 := by decide
  refine w_X12_brings hs _ _ _ ?_
  rw [ei, nI_clamp (show 8 * i + j < 2 ^ 31 by omega), hG.2.2.2.2 i j hi hj, nI_clamp (show i < 2 ^ 31 by omega), nI_clamp (show j < 2 ^ 31 by omega), hG.2.2.1 i hi, hG.2.2.2.1 j hj, nI_clamp (show pkI V 0 i < 2 ^ 31 by omega), nI_clamp (show pkI V 1 j < 2 ^ 31 by omega), hV 96 (by decide) (by decide), hV 94 (by decide) (by decide), ehb, ehg, nI_clamp (show hN V (pkI V 0 i) < 2 ^ 31 by omega), one_shl j (by omega), fa_or, nI_1, N256, pk_mul, nI_add, nI_clamp (show 256 * (i + 1) + (t ||| 2 ^ j) < 2 ^ 31 by omega)]
  refine br_c (fun c2 => ⟨vp_in_nI (by omega) (by decide), ?_⟩) (fun c2 => hQ _ (fun e => absurd ((bitf (by omega) (by omega)).mpr e.2) c2) (fun _ => m1))
  have c2 := (bitf (by omega) (by omega)).mp c2
  by_cases c1 : mpA V i j
  · rw [cif_t c1]
    obtain ⟨e1, e2⟩ := gv_ok w hi hj
    rw [e1]
    refine br_f (m1_nI (by omega)) ⟨vp_in_nI (by omega) (by decide), vp_in_nI (by omega) (by decide), vp_in_nI (by omega) (by decide), vp_in_nI (by omega) (by decide), vp_in_nI (by omega) (by decide), ?_⟩
    rintro y12 rfl
    refine ⟨vp_in_nI (by omega) (by decide), hQ _ (fun _ => ?_) (fun e => absurd ⟨c1, c2⟩ e)⟩
    have hL := hW (i + 1) (t ||| 2 ^ j) (Nat.le_refl _) (by omega) hor
    have b2 := T3_b (dp_rel (al := mpA V) (nb := pkC V 0) (ng := pkC V 1) (wv_ok V) (pkC V 0 - (i + 1)) (by omega) (t ||| 2 ^ j)) (by omega)
    rw [wvM_f]
    by_cases cf : fvB V i j = true
    · have cf' : ¬ ((V 94 (hN V (pkI V 0 i)) >>> (nI (hN V (pkI V 1 j)) &&& 31)) &&& 1) = 0 := fun e => (bit_0 _ (by omega)).mp e cf
      rw [if_pos cf', if_pos cf]
      exact bring_1 e2 hL b2.1 b2.2.1
    · have cf' : ((V 94 (hN V (pkI V 0 i)) >>> (nI (hN V (pkI V 1 j)) &&& 31)) &&& 1) = 0 := (bit_0 _ (by omega)).mpr cf
      rw [if_neg (fun e => e cf'), if_neg cf]
      exact bring_0 e2 hL b2.1 b2.2.1
  · rw [cif_f c1]
    exact br_t rfl (hQ _ (fun e => absurd e.1 c1) (fun _ => m1))
theorem uL_s {L : mL} {a i : Nat} {x : Int64} : uL L a i x a = fun j => if j = i then x else L a j := by
  funext j
  simp [uL]
theorem m_findBest (hs : SL h) (w : Wf V) (hV : MV I V) (hQ : ∀ I' L', (∀ a, a ≠ 83 → (a < 123 ∨ 126 < a) → (a < 133 ∨ 137 < a) → a ≠ 139 → I' a = I a) → GM I' V → (∀ i, i < pkC V 0 → I' 139 i = bsG V i) → Q none h I' L') : (CT E mX12_findBest (d + 6) 0 0 [.ref (eB E + 83)] h I L Q) := by
  have p0 : pkC V 0 ≤ 8 := by unfold pkC; omega
  have p1 : pkC V 1 ≤ 8 := by unfold pkC; omega
  have h256 := pow8 p1
  have hpos : 0 < 2 ^ pkC V 1 := Nat.two_pow_pos _
  refine w_X12_findBest hs ?_
  refine m_findFree hs w hV (fun I1 f1 hG => qv_i ?_)
  rw [hG.1, hG.2.1, one_shl _ (by omega)]
  rintro y2 rfl
  have hV1 : MV I1 V := fun a h1 h2 => by rw [f1 a (by omega) (by omega) (by omega)]; exact hV a h1 h2
  have K160 : ∀ L1 : mL, WM V (L1 138) 0 → (J E mX12_findBest (d + 6) Q 0 0 160 [some (.ref (eB E + 83)), some (.int (nI (pkC V 0))), some (.int (nI (2 ^ pkC V 1))), some (.int 0), some (.int 0), none, none, none, none, none] [] h I1 L1) := by
    intro L1 hW
    have K : ∀ i, i ≤ pkC V 0 → ∀ f, (∀ k, k < i → f k = bsG V k) → (J E mX12_findBest (d + 6) Q 0 0 160 [some (.ref (eB E + 83)), some (.int (nI (pkC V 0))), some (.int (nI (2 ^ pkC V 1))), some (.int (nI (bsT (mpA V) (wvM V) (pkC V 0) (pkC V 1) i))), some (.int (nI i)), none, none, none, none, none] [] h (sA I1 139 f) L1) := by
      refine dn (pkC V 0) ?_ ?_
      · intro f hf
        have gm : GM (sA I1 139 f) V := by
          unfold GM
          rw [sA_ne (by decide), sA_ne (by decide), sA_ne (by decide), sA_ne (by decide)]
          exact hG
        exact w_X12_findBest_160 hs _ _ _ _ (br_t (nI_le (Nat.le_refl _) (by omega)) (hQ _ _ (fun a h1 h2 h3 h4 => by rw [sA_ne h4]; exact f1 a h1 h2 h3) gm (by rw [sA_at]; exact hf)))
      · intro i hi ih f hf
        obtain ⟨b1, b2⟩ := bsT_ok (al := mpA V) (v := wvM V) (nb := pkC V 0) p1 i
        have gm : GM (sA I1 139 f) V := by
          unfold GM
          rw [sA_ne (by decide), sA_ne (by decide), sA_ne (by decide), sA_ne (by decide)]
          exact hG
        have hV2 : MV (sA I1 139 f) V := fun a h1 h2 => by rw [sA_ne (by omega)]; exact hV1 a h1 h2
        refine w_X12_findBest_160 hs _ _ _ _ (br_f (nI_ge hi (by omega)) ?_)
        have ih := ih (upd f i (bsG V i)) (fun k hk => by
          by_cases c : k = i
          · rw [c, upd_same']
          · rw [upd_ne' c]; exact hf k (by omega))
        have et : bsT (mpA V) (wvM V) (pkC V 0) (pkC V 1) (i + 1) = if bsG V i = (-1) then bsT (mpA V) (wvM V) (pkC V 0) (pkC V 1) i else bsT (mpA V) (wvM V) (pkC V 0) (pkC V 1) i ||| 2 ^ (bsG V i).toNatClampNeg := rfl
        rw [et] at ih
        have eb : bsG V i = chI (mpA V) (wvM V) (pkC V 0) (pkC V 1) i (bsT (mpA V) (wvM V) (pkC V 0) (pkC V 1) i) := rfl
        generalize hbt : bsT (mpA V) (wvM V) (pkC V 0) (pkC V 1) i = t at b1 b2 ih eb
        have fin : ∀ j, j ≤ pkC V 1 → bsG V i = (if pkC V 1 ≤ j then (-1) else nI j) → (J E mX12_findBest (d + 6) Q 0 0 212 [some (.ref (eB E + 83)), some (.int (nI (pkC V 0))), some (.int (nI (2 ^ pkC V 1))), some (.int (nI t)), some (.int (nI i)), some (.int (nI j)), none, none, none, none] [] h (sA I1 139 f) L1) := by
          intro j hj hb
          refine w_X12_findBest_212 hs _ _ _ _ _ ⟨vp_in_nI (by omega) (by decide), ?_⟩
          rw [gm.2.1, nI_clamp (by omega), nI_1, uI_sA]
          rintro y4 rfl
          by_cases c : pkC V 1 ≤ j
          · rw [if_pos (nI_le c (by omega)), if_pos (nI_le c (by omega))]
            rw [if_pos c] at hb
            rw [hb, if_pos rfl] at ih
            have z : nI t ||| 0 = nI t := by simp
            rw [z]
            exact ih
          · rw [if_neg (nI_ge (by omega) (by omega)), if_neg (nI_ge (by omega) (by omega))]
            rw [if_neg c] at hb
            rw [hb, if_neg (m1_nI (by omega)), nI_clamp (by omega)] at ih
            rw [one_shl j (by omega), fa_or]
            exact ih
        have K169 : ∀ j, j ≤ pkC V 1 → (∀ k, k < j → pB (chP (mpA V) (wvM V) (dpF (mpA V) (wvM V) (pkC V 0) (pkC V 1) (pkC V 0 - (i + 1))) (dpF (mpA V) (wvM V) (pkC V 0) (pkC V 1) (pkC V 0 - i) t) i t) k = false) → (J E mX12_findBest (d + 6) Q 0 0 169 [some (.ref (eB E + 83)), some (.int (nI (pkC V 0))), some (.int (nI (2 ^ pkC V 1))), some (.int (nI t)), some (.int (nI i)), some (.int (nI j)), none, none, none, none] [] h (sA I1 139 f) L1) := by
          refine dn (pkC V 1) ?_ ?_
          · intro hno
            refine w_X12_findBest_169 hs _ _ _ _ _ (br_t (by rw [gm.2.1]; exact nI_le (Nat.le_refl _) (by omega)) (fin _ (Nat.le_refl _) ?_))
            rw [eb, if_pos (Nat.le_refl _)]
            unfold chI
            exact fstI_n hno
          · intro j hj ihj hno
            refine w_X12_findBest_169 hs _ _ _ _ _ (br_f (by rw [gm.2.1]; exact nI_ge hj (by omega)) ?_)
            refine m_brings hs w hV2 gm hi hj b1 (fun k t' h1 h2 h3 => hW k t' (by omega) h2 h3) (fun x hx1 hx2 => ql_i ?_)
            have ei : 256 * nI i + nI t = nI (256 * i + t) := by rw [N256, pk_mul, nI_add]
            rw [ei, nI_clamp (show 256 * i + t < 2 ^ 31 by omega), nI_1]
            refine ⟨vp_in_nI (by omega) (by decide), ?_⟩
            have hcur := hW i t (by omega) (by omega) b1
            have bcur := T3_b (dp_rel (al := mpA V) (nb := pkC V 0) (ng := pkC V 1) (wv_ok V) (pkC V 0 - i) (by omega) t) (by omega)
            rw [lg_cmp_eq, fa_eq64, hcur]
            by_cases cc : chP (mpA V) (wvM V) (dpF (mpA V) (wvM V) (pkC V 0) (pkC V 1) (pkC V 0 - (i + 1))) (dpF (mpA V) (wvM V) (pkC V 0) (pkC V 1) (pkC V 0 - i) t) i t j
            · refine br_t ((hx1 ⟨cc.1, cc.2.1⟩).trans cc.2.2) (fin j (by omega) ?_)
              rw [eb, if_neg (by omega)]
              unfold chI
              exact fstI_y hj (pB_t cc) hno
            · refine br_f (fun e => ?_) (ihj (lt_s hno (pB_f cc)))
              by_cases ca : mpA V i j ∧ t.testBit j = false
              · exact cc ⟨ca.1, ca.2, (hx1 ca).symm.trans e⟩
              · rw [hx2 ca] at e; omega
        exact K169 0 (by omega) (fun k hk => absurd hk (by omega))
    have := K 0 (by omega) (I1 139) (fun k hk => absurd hk (by omega))
    rw [sA_id] at this
    exact this
  have K50 : ∀ n, n ≤ pkC V 0 → ∀ L1 : mL, WM V (L1 138) n → (J E mX12_findBest (d + 6) Q 0 0 50 [some (.ref (eB E + 83)), some (.int (nI (pkC V 0))), some (.int (nI (2 ^ pkC V 1))), some (.int (nI n - 1)), none, none, none, none, none, none] [] h I1 L1) := by
    intro n
    induction n with
    | zero =>
      intro _ L1 hW
      refine w_X12_findBest_50 hs _ _ _ (br_t (by decide) ?_)
      exact K160 L1 hW
    | succ n ih =>
      intro hn L1 hW
      rw [nI_pred]
      refine w_X12_findBest_50 hs _ _ _ (br_f (nI_pos (by omega)) ?_)
      have K57 : ∀ t, t ≤ 2 ^ pkC V 1 → ∀ L1 : mL, WM V (L1 138) (n + 1) → (∀ t', t' < t → (L1 138 (256 * n + t')).toInt = dpF (mpA V) (wvM V) (pkC V 0) (pkC V 1) (pkC V 0 - n) t') → (J E mX12_findBest (d + 6) Q 0 0 57 [some (.ref (eB E + 83)), some (.int (nI (pkC V 0))), some (.int (nI (2 ^ pkC V 1))), some (.int (nI n)), some (.int (nI t)), none, none, none, none, none] [] h I1 L1) := by
        refine dn (2 ^ pkC V 1) ?_ ?_
        · intro L1 hW hr
          refine w_X12_findBest_57 hs _ _ _ _ (br_t (nI_le (Nat.le_refl _) (by omega)) ?_)
          have e : nI n + (-1) = nI n - 1 := by
            rw [fa_eq]
            rw [fb_addI, fb_subI] <;> rw [nI_toInt (by omega)] <;> simp <;> omega
          rw [e]
          refine ih (by omega) L1 (fun k t h1 h2 h3 => ?_)
          by_cases c : k = n
          · subst c; exact hr t h3
          · exact hW k t (by omega) h2 h3
        · intro t ht iht L1 hW hr
          refine w_X12_findBest_57 hs _ _ _ _ (br_f (nI_ge ht (by omega)) ?_)
          have e1 : 256 * (nI n + 1) + nI t = nI (256 * (n + 1) + t) := by rw [nI_1, N256, pk_mul, nI_add]
          rw [e1, nI_clamp (by omega)]
          refine ⟨vp_in_nI (by omega) (by decide), ?_⟩
          rintro y3 rfl
          have edp : dpF (mpA V) (wvM V) (pkC V 0) (pkC V 1) (pkC V 0 - n) t = rowF (mpA V) (wvM V) (dpF (mpA V) (wvM V) (pkC V 0) (pkC V 1) (pkC V 0 - (n + 1))) n t (pkC V 1) := by
            rw [show pkC V 0 - n = (pkC V 0 - (n + 1)) + 1 by omega, dpF]
            dsimp only
            rw [show pkC V 0 - (pkC V 0 - (n + 1) + 1) = n by omega]
          have K83 : ∀ j, j ≤ pkC V 1 → ∀ x : Int64, x.toInt = rowF (mpA V) (wvM V) (dpF (mpA V) (wvM V) (pkC V 0) (pkC V 1) (pkC V 0 - (n + 1))) n t j → (J E mX12_findBest (d + 6) Q 0 0 83 [some (.ref (eB E + 83)), some (.int (nI (pkC V 0))), some (.int (nI (2 ^ pkC V 1))), some (.int (nI n)), some (.int (nI t)), some (.long x), none, some (.int (nI j)), none, none] [] h I1 L1) := by
            refine dn (pkC V 1) ?_ ?_
            · intro x hx
              refine w_X12_findBest_83 hs _ _ _ _ _ _ (br_t (by rw [hG.2.1]; exact nI_le (Nat.le_refl _) (by omega)) ?_)
              have e2 : 256 * nI n + nI t = nI (256 * n + t) := by rw [N256, pk_mul, nI_add]
              rw [e2, nI_clamp (show 256 * n + t < 2 ^ 31 by omega), nI_1]
              refine ⟨vp_in_nI (by omega) (by decide), iht _ (fun k t' h1 h2 h3 => ?_) (fun t' h1 => ?_)⟩
              · rw [uL_s]; dsimp only; rw [if_neg (by omega)]; exact hW k t' h1 h2 h3
              · rw [uL_s]; dsimp only
                by_cases e : t' = t
                · subst e; rw [if_pos rfl, edp]; exact hx
                · rw [if_neg (by omega)]; exact hr t' (by omega)
            · intro j hj ihj x hx
              refine w_X12_findBest_83 hs _ _ _ _ _ _ (br_f (by rw [hG.2.1]; exact nI_ge hj (by omega)) ?_)
              refine m_brings hs w hV1 hG (by omega) hj ht hW (fun y hy1 hy2 => ql_i ?_)
              rintro y6 rfl
              rw [nI_1]
              refine ihj _ ?_
              have bx := T3_b (row_rel (al := mpA V) (wv_ok V) (B := pkC V 0 - (n + 1)) (by omega) (dp_rel (al := mpA V) (nb := pkC V 0) (ng := pkC V 1) (wv_ok V) (pkC V 0 - (n + 1)) (by omega)) n t j) (by omega)
              rw [rowF]
              by_cases cc : lg_cmp y x ≤ 0
              · rw [if_pos cc]
                rw [lg_cmp_le, fa_le64, hx] at cc
                rw [cif_f]
                · exact hx
                · rintro ⟨e1, e2, e3⟩
                  rw [hy1 ⟨e1, e2⟩] at cc
                  omega
              · rw [if_neg cc]
                rw [lg_cmp_le, fa_le64, hx] at cc
                by_cases ca : mpA V n j ∧ t.testBit j = false
                · rw [hy1 ca] at cc
                  rw [cif_t ⟨ca.1, ca.2, by omega⟩]
                  exact hy1 ca
                · rw [hy2 ca] at cc; omega
          exact K83 0 (by omega) _ (hW (n + 1) t (Nat.le_refl _) (by omega) ht)
      exact K57 0 (by omega) L1 hW (fun t' h1 => absurd h1 (by omega))
  have K22 : ∀ t, t ≤ 2 ^ pkC V 1 → ∀ L1 : mL, (∀ t', t' < t → L1 138 (256 * pkC V 0 + t') = 0) → (J E mX12_findBest (d + 6) Q 0 0 22 [some (.ref (eB E + 83)), some (.int (nI (pkC V 0))), some (.int (nI (2 ^ pkC V 1))), some (.int (nI t)), none, none, none, none, none, none] [] h I1 L1) := by
    refine dn (2 ^ pkC V 1) ?_ ?_
    · intro L1 hz
      refine w_X12_findBest_22 hs _ _ _ (br_t (nI_le (Nat.le_refl _) (by omega)) ?_)
      refine K50 _ (Nat.le_refl _) L1 (fun k t h1 h2 h3 => ?_)
      have : k = pkC V 0 := by omega
      subst this
      rw [hz t h3, Nat.sub_self]
      rfl
    · intro t ht ih L1 hz
      refine w_X12_findBest_22 hs _ _ _ (br_f (nI_ge ht (by omega)) ?_)
      have e2 : 256 * nI (pkC V 0) + nI t = nI (256 * pkC V 0 + t) := by rw [N256, pk_mul, nI_add]
      rw [e2, nI_clamp (show 256 * pkC V 0 + t < 2 ^ 31 by omega), nI_1]
      refine ⟨vp_in_nI (by omega) (by decide), ih _ (fun t' h1 => ?_)⟩
      rw [uL_s]; dsimp only
      by_cases e : t' = t
      · rw [e, if_pos rfl]
      · rw [if_neg (by omega)]; exact hz t' (by omega)
  exact K22 0 (by omega) L (fun t' h1 => absurd h1 (by omega))
end BM
