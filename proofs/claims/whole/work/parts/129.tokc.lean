/-! texts: the component reads tokens -/
theorem nI_sb {a b : Nat} (h : b ≤ a) (ha : a < 2 ^ 31) : nI a - nI b = nI (a - b) := by
  rw [fa_eq, Int32.toInt_sub, nI_toInt ha, nI_toInt (by omega), nI_toInt (by omega)]
  rw [show (a : Int) - (b : Int) = ((a - b : Nat) : Int) by omega]
  exact Int.bmod_eq_of_le (by omega) (by omega)
section TC
variable (tp : Nat → Int32) (n : Nat)
def TkC (I : mI) (p : Nat) : Prop := (I 47 1 = knd tp n p) ∧ (I 47 2 = nI (plc tp n p)) ∧ (I 47 3 = nI (nxt tp n p)) ∧ (knd tp n p = 2 → I 47 4 = wor tp n p)
variable {tp n}
def F47 (I I' : mI) : Prop := (∀ a, a ≠ 47 → I' a = I a) ∧ ∀ j, j ≠ 1 → j ≠ 2 → j ≠ 3 → j ≠ 4 → I' 47 j = I 47 j
theorem F47.rf {I : mI} : F47 I I := ⟨fun _ _ => rfl, fun _ _ _ _ _ => rfl⟩
theorem F47.tr {I J K : mI} (h : F47 I J) (k : F47 J K) : F47 I K := ⟨fun a ha => (k.1 a ha).trans (h.1 a ha), fun j h1 h2 h3 h4 => (k.2 j h1 h2 h3 h4).trans (h.2 j h1 h2 h3 h4)⟩
theorem F47.u {I : mI} {i : Nat} {x : Int32} (h : i = 1 ∨ i = 2 ∨ i = 3 ∨ i = 4) : F47 I (uI I 47 i x) := ⟨fun a ha => uI_ne ha, fun j h1 h2 h3 h4 => uI_nj (by omega)⟩
variable {E : Envt} {d : Nat} {Q : Pst} {h : mS} {I : mI} {L : mL}
theorem c_kind (hs : SL h) {c : Int32} (hQ : Q (some (.int (kb c))) h I L) : (CT E mX8_kindOf d 0 0 [.int c] h I L Q) := by
  have p28 : (c < 97 ∨ 122 < c) → (c < 48 ∨ 57 < c) → (J E mX8_kindOf d Q 0 0 28 [some (.int c)] [] h I L) := by
    intro h1 h2
    unfold kb at hQ
    rw [if_pos h1, if_pos h2] at hQ
    refine w_X8_kindOf_28 hs _ (br_c (fun c1 => ?_) (fun c1 => br_c (fun c2 => ?_) (fun c2 => br_c (fun c3 => ?_) (fun c3 => br_c (fun c4 => ?_) (fun c4 => br_c (fun c5 => ?_) (fun c5 => ?_))))))
    · rw [if_pos (Or.inl c1)] at hQ; exact hQ
    · rw [if_pos (Or.inr (Or.inl c2))] at hQ; exact hQ
    · rw [if_pos (Or.inr (Or.inr (Or.inl c3)))] at hQ; exact hQ
    · rw [if_pos (Or.inr (Or.inr (Or.inr (Or.inl c4))))] at hQ; exact hQ
    · rw [if_pos (Or.inr (Or.inr (Or.inr (Or.inr c5))))] at hQ; exact hQ
    · rw [if_neg (fun e => e.elim c1 (fun e => e.elim c2 (fun e => e.elim c3 (fun e => e.elim c4 c5))))] at hQ
      by_cases w1 : c = 32
      · rw [if_pos (Or.inl w1)] at hQ; rw [if_pos w1]; exact hQ
      · by_cases w2 : c = 10
        · rw [if_pos (Or.inr w2)] at hQ; rw [if_neg w1, if_pos w2]; exact hQ
        · rw [if_neg (fun e => e.elim w1 w2)] at hQ; rw [if_neg w1, if_neg w2]; exact hQ
  have p14 : (c < 97 ∨ 122 < c) → (J E mX8_kindOf d Q 0 0 14 [some (.int c)] [] h I L) := by
    intro h1
    refine w_X8_kindOf_14 hs _ (br_c (fun c1 => p28 h1 (Or.inl c1)) (fun c1 => br_c (fun c2 => p28 h1 (Or.inr c2)) (fun c2 => ?_)))
    unfold kb at hQ
    rw [if_pos h1, if_neg (fun e => e.elim c1 c2)] at hQ
    exact hQ
  refine w_X8_kindOf hs _ (br_c (fun c1 => p14 (Or.inl c1)) (fun c1 => br_c (fun c2 => p14 (Or.inr c2)) (fun c2 => ?_)))
  unfold kb at hQ
  rw [if_neg (fun e => e.elim c1 c2)] at hQ
  exact hQ
/-- the number at hand is measured -/
theorem c_measure (hs : SL h) (n5 : n ≤ 500) {p : Nat} (hp : plc tp n p < n) (hk : kb (tp (plc tp n p)) = 2) (et : ∀ i, i < n → I 37 i = tp i) (e1 : I 47 1 = 2) (e2 : I 47 2 = nI (plc tp n p)) (e3 : I 47 3 = nI (nxt tp n p)) (hQ : ∀ I', F47 I I' → TkC tp n I' p → Q none h I' L) : (CT E mX8_measure d 0 0 [.ref (eB E + 47)] h I L Q) := by
  obtain ⟨g1, g2⟩ := knd_of2 hp hk
  have nle : nxt tp n p ≤ n := by rw [g2]; exact ru_le (by omega)
  have gt := nxt_gt hp
  have K : ∀ k, k ≤ nxt tp n p - plc tp n p → ∀ I', F47 I I' → I' 47 1 = 2 → I' 47 2 = nI (plc tp n p) → I' 47 3 = nI (nxt tp n p) → I' 47 4 = wr tp (plc tp n p) k → (J E mX8_measure d Q 0 0 10 [some (.ref (eB E + 47)), some (.int (nI (plc tp n p + k)))] [] h I' L) := by
    refine dn (nxt tp n p - plc tp n p) ?_ ?_
    · intro I' f' i1 i2 i3 i4
      refine w_X8_measure_10 hs _ ?_
      rw [i3, i2]
      refine br_t (nI_le (by omega) (by omega)) ?_
      have es : nI (nxt tp n p) - nI (plc tp n p) = nI (nxt tp n p - plc tp n p) := nI_sb (by omega) (by omega)
      rw [es]
      by_cases c : nxt tp n p - plc tp n p ≤ 4
      · refine br_t (show nI (nxt tp n p - plc tp n p) ≤ 4 from nI_le (show nxt tp n p - plc tp n p ≤ 4 from c) (by decide)) (hQ I' f' ⟨?_, i2, i3, fun _ => i4⟩)
        rw [g1, if_pos c]; exact i1
      · refine br_f (show ¬ nI (nxt tp n p - plc tp n p) ≤ 4 from nI_ge (show 4 < nxt tp n p - plc tp n p by omega) (by omega)) (hQ _ (F47.tr f' (F47.u (by omega))) ⟨?_, by rw [uI_nj (by decide)]; exact i2, by rw [uI_nj (by decide)]; exact i3, fun _ => by rw [uI_nj (by decide)]; exact i4⟩)
        rw [g1, if_neg c, uI_eq]
    · intro k hk ih I' f' i1 i2 i3 i4
      refine w_X8_measure_10 hs _ ?_
      rw [i3, i4, nI_clamp (show plc tp n p + k < 2 ^ 31 by omega), nI_1, f'.1 37 (by decide), et _ (by omega)]
      exact br_f (nI_ge (by omega) (by omega)) ⟨vp_in_nI (by omega) (by decide), ih _ (F47.tr f' (F47.u (by omega))) (by rw [uI_nj (by decide)]; exact i1) (by rw [uI_nj (by decide)]; exact i2) (by rw [uI_nj (by decide)]; exact i3) (by rw [uI_eq]; rfl)⟩
  refine w_X8_measure hs ?_
  rw [e2]
  exact K 0 (by omega) _ (F47.u (by omega)) (by rw [uI_nj (by decide)]; exact e1) (by rw [uI_nj (by decide)]; exact e2) (by rw [uI_nj (by decide)]; exact e3) (by rw [uI_eq]; rfl)
theorem c_advance (hs : SL h) (n5 : n ≤ 500) {p : Nat} (hp : p ≤ n) (e7 : I 1 7 = nI n) (et : ∀ i, i < n → I 37 i = tp i) (e3 : I 47 3 = nI p) (hQ : ∀ I', F47 I I' → TkC tp n I' p → Q none h I' L) : (CT E mX8_advance (d + 1) 0 0 [.ref (eB E + 47)] h I L Q) := by
  refine CT.of (by decide) [some (.ref (eB E + 47))] rfl (Nat.le_of_ble_eq_true rfl) ?_
  have pn := plc_le (tp := tp) hp
  have nn := nxt_le (tp := tp) hp
  have p118 : ∀ k : Int32, k = kb (tp (plc tp n p)) → (k = 1 ∨ k = 2) → plc tp n p < n → ∀ f q I', nxt tp n p - q = f → plc tp n p < q → q ≤ nxt tp n p → F47 I I' → I' 47 1 = k → I' 47 2 = nI (plc tp n p) → I' 47 3 = nI q → (J E mX8_advance (d + 1) Q 0 0 118 [some (.ref (eB E + 47))] [] h I' L) := by
    intro k ek k12 hpl
    have k0 := kn0_of hpl
    have hnx : nxt tp n p = ru tp n k (plc tp n p + 1) := by
      unfold nxt; rw [if_pos hpl, k0, ← ek, if_pos k12]
    have done : ∀ I', F47 I I' → I' 47 1 = k → I' 47 2 = nI (plc tp n p) → I' 47 3 = nI (nxt tp n p) → ((I' 47 1 = 2 → CT E mX8_measure d 0 0 [.ref (eB E + 47)] h I' L (qv h L fun I4 => Q none h I4 L)) ∧ (¬ I' 47 1 = 2 → Q none h I' L)) := by
      intro I' f' i1 i2 i3
      rw [i1]
      refine br_c (fun c => ?_) (fun c => ?_)
      · refine c_measure hs n5 hpl (by rw [← ek]; exact c) (fun i hi => by rw [f'.1 37 (by decide)]; exact et i hi) (by rw [i1]; exact c) i2 i3 (fun I4 f4 t4 => qv_i (hQ I4 (F47.tr f' f4) t4))
      · have k1 : k = 1 := k12.resolve_right c
        refine hQ I' f' ⟨?_, i2, i3, fun e => ?_⟩
        · rw [knd_of1 hpl (by rw [← ek]; exact k1), i1]; exact k1
        · rw [knd_of1 hpl (by rw [← ek]; exact k1)] at e; exact absurd e (by decide)
    intro f
    induction f with
    | zero =>
      intro q I' ef h1 h2 f' i1 i2 i3
      have eq : q = nxt tp n p := by omega
      subst eq
      have hno : ¬ (nxt tp n p < n ∧ kb (tp (nxt tp n p)) = k) := by rw [hnx]; exact ru_end
      refine w_X8_advance_118 hs ?_
      rw [f'.1 1 (by decide), e7, i3]
      by_cases c : nxt tp n p < n
      · refine br_f (nI_ge c (by omega)) ⟨vp_in_nI (by omega) (by decide), ?_⟩
        rw [nI_clamp (show nxt tp n p < 2 ^ 31 by omega), f'.1 37 (by decide), et _ c]
        refine c_kind hs (qi_i (br_f (fun e => hno ⟨c, e.trans i1⟩) (done I' f' i1 i2 i3)))
      · exact br_t (nI_le (by omega) (by omega)) (done I' f' i1 i2 i3)
    | succ f ih =>
      intro q I' ef h1 h2 f' i1 i2 i3
      have hin : q < n ∧ kb (tp q) = k := by
        have : q < ru tp n k (plc tp n p + 1) := by rw [← hnx]; omega
        exact ru_in (by omega) this
      refine w_X8_advance_118 hs ?_
      rw [f'.1 1 (by decide), e7, i3, nI_clamp (show q < 2 ^ 31 by omega), f'.1 37 (by decide), et _ hin.1]
      refine br_f (nI_ge hin.1 (by omega)) ⟨vp_in_nI (by omega) (by decide), ?_⟩
      refine c_kind hs (qi_i (br_t (hin.2.trans i1.symm) ?_))
      rw [i3, nI_1]
      exact ih (q + 1) _ (by omega) (by omega) (by omega) (F47.tr f' (F47.u (by omega))) (by rw [uI_nj (by decide)]; exact i1) (by rw [uI_nj (by decide)]; exact i2) (by rw [uI_eq])
  have p46 : ∀ I', F47 I I' → I' 47 3 = nI (plc tp n p) → (J E mX8_advance (d + 1) Q 0 0 46 [some (.ref (eB E + 47))] [] h I' L) := by
    intro I' f' i3
    refine w_X8_advance_46 hs ?_
    rw [f'.1 1 (by decide), e7, i3]
    by_cases c : plc tp n p < n
    · refine br_f (nI_ge c (by omega)) ⟨vp_in_nI (by omega) (by decide), ?_⟩
      rw [nI_clamp (show plc tp n p < 2 ^ 31 by omega), f'.1 37 (by decide), et _ c]
      refine c_kind hs (qi_i ?_)
      rw [uI_nj (by decide), uI_nj (by decide), i3, nI_1]
      have fr : F47 I (uI (uI (uI (uI I' 47 2 (nI (plc tp n p))) 47 1 0) 47 1 (kb (tp (plc tp n p)))) 47 3 (nI (plc tp n p + 1))) := F47.tr f' (F47.tr (F47.tr (F47.tr (F47.u (by omega)) (F47.u (by omega))) (F47.u (by omega))) (F47.u (by omega)))
      have j1 : uI (uI (uI (uI I' 47 2 (nI (plc tp n p))) 47 1 0) 47 1 (kb (tp (plc tp n p)))) 47 3 (nI (plc tp n p + 1)) 47 1 = kb (tp (plc tp n p)) := by rw [uI_nj (by decide), uI_eq]
      have j2 : uI (uI (uI (uI I' 47 2 (nI (plc tp n p))) 47 1 0) 47 1 (kb (tp (plc tp n p)))) 47 3 (nI (plc tp n p + 1)) 47 2 = nI (plc tp n p) := by rw [uI_nj (by decide), uI_nj (by decide), uI_nj (by decide), uI_eq]
      have j3 : uI (uI (uI (uI I' 47 2 (nI (plc tp n p))) 47 1 0) 47 1 (kb (tp (plc tp n p)))) 47 3 (nI (plc tp n p + 1)) 47 3 = nI (plc tp n p + 1) := by rw [uI_eq]
      generalize uI (uI (uI (uI I' 47 2 (nI (plc tp n p))) 47 1 0) 47 1 (kb (tp (plc tp n p)))) 47 3 (nI (plc tp n p + 1)) = I2 at fr j1 j2 j3 ⊢
      have gt := nxt_gt c
      refine w_X8_advance_102 hs ?_
      rw [j1]
      by_cases k1 : kb (tp (plc tp n p)) = 1
      · exact br_t k1 (p118 1 k1.symm (Or.inl rfl) c _ _ I2 rfl (by omega) gt fr (by rw [j1]; exact k1) j2 j3)
      · refine br_f k1 ?_
        by_cases k2 : kb (tp (plc tp n p)) = 2
        · exact br_t k2 (p118 2 k2.symm (Or.inr rfl) c _ _ I2 rfl (by omega) gt fr (by rw [j1]; exact k2) j2 j3)
        · refine br_f k2 (br_f k2 ?_)
          obtain ⟨g1, g2⟩ := knd_of3 c k1 k2
          exact hQ I2 fr ⟨by rw [j1, g1], j2, by rw [j3, g2], fun e => absurd (g1.symm.trans e) k2⟩
    · refine br_t (nI_le (by omega) (by omega)) ?_
      obtain ⟨g1, g2⟩ := knd_of0 c
      refine w_X8_advance_102 hs ?_
      rw [uI_eq]
      refine br_f (by decide) (br_f (by decide) (br_f (by decide) ?_))
      exact hQ _ (F47.tr f' (F47.tr (F47.u (by omega)) (F47.u (by omega)))) ⟨by rw [uI_eq, g1], by rw [uI_nj (by decide), uI_eq], by rw [uI_nj (by decide), uI_nj (by decide), i3, g2], fun e => by rw [g1] at e; exact absurd e (by decide)⟩
  have K : ∀ f k I', plc tp n p - k = f → p ≤ k → k ≤ plc tp n p → F47 I I' → I' 47 3 = nI k → (J E mX8_advance (d + 1) Q 0 0 0 [some (.ref (eB E + 47))] [] h I' L) := by
    intro f
    induction f with
    | zero =>
      intro k I' ef h1 h2 f' i3
      have ek : k = plc tp n p := by omega
      subst ek
      refine w_X8_advance_0 hs ?_
      rw [f'.1 1 (by decide), e7, i3]
      by_cases c : plc tp n p < n
      · refine br_f (nI_ge c (by omega)) ⟨vp_in_nI (by omega) (by decide), ?_⟩
        rw [nI_clamp (show plc tp n p < 2 ^ 31 by omega), f'.1 37 (by decide), et _ c]
        exact c_kind hs (qi_i (br_f (fun e => plc_nb ⟨c, e⟩) (p46 I' f' i3)))
      · exact br_t (nI_le (by omega) (by omega)) (p46 I' f' i3)
    | succ f ih =>
      intro k I' ef h1 h2 f' i3
      have hin : k < n ∧ kb (tp k) = 4 := ru_in (p := p) h1 (show k < plc tp n p by omega)
      refine w_X8_advance_0 hs ?_
      rw [f'.1 1 (by decide), e7, i3, nI_clamp (show k < 2 ^ 31 by omega), f'.1 37 (by decide), et _ hin.1]
      refine br_f (nI_ge hin.1 (by omega)) ⟨vp_in_nI (by omega) (by decide), c_kind hs (qi_i (br_t hin.2 ?_))⟩
      rw [i3, nI_1]
      exact ih (k + 1) _ (by omega) (by omega) (by omega) (F47.tr f' (F47.u (by omega))) (by rw [uI_eq])
  exact K _ p I rfl (Nat.le_refl _) plc_ge F47.rf e3
/-- is the token at hand that word -/
theorem c_isWord (hs : SL h) (n5 : n ≤ 500) {p k : Nat} (hk : k < 19) (hp : p ≤ n) (et : ∀ i, i < n → I 37 i = tp i) (t : TkC tp n I p) (hQ : Q (some (.int (tf (wdB tp n p k)))) h I L) : CT E mX8_isWord (d + 4) 0 0 [.ref (eB E + 47), .ref (eK E k)] h I L Q := by
  have pn := plc_le (tp := tp) hp
  have nn := nxt_le (tp := tp) hp
  have ge := nxt_ge (tp := tp) (n := n) (p := p)
  have hl := sLen_l k hk
  have no : ¬ (wdB tp n p k = true) → Q (some (.int 0)) h I L := fun hn => by
    have e : tf (wdB tp n p k) = 0 := by unfold tf; rw [if_neg hn]
    rw [e] at hQ; exact hQ
  have es : nI (nxt tp n p) - nI (plc tp n p) = nI (nxt tp n p - plc tp n p) := nI_sb (by omega) (by omega)
  refine w_X8_isWord hs hk ?_
  rw [t.1, t.2.1, t.2.2.1, es]
  refine br_c (fun c1 => br_c (fun c2 => ?_) (fun c2 => no fun e => c2 ?_)) (fun c1 => no fun e => c1 (wdB_iff.mp e).1)
  · have c2 : nxt tp n p - plc tp n p = sLen.getD k 0 := (nI_eq (by omega) (by omega)).mp c2
    have K : ∀ j, j ≤ sLen.getD k 0 → (∀ i, i < j → tp (plc tp n p + i) = (sByt.getD k []).getD i 0) → (J E mX8_isWord (d + 4) Q 0 0 28 [some (.ref (eB E + 47)), some (.ref (eK E k)), some (.int (nI j))] [] h I L) := by
      refine dn (sLen.getD k 0) ?_ ?_
      · intro hj
        refine w_X8_isWord_28 hs hk _ (br_t (nI_le (Nat.le_refl _) (by omega)) ?_)
        have e : tf (wdB tp n p k) = 1 := by unfold tf; rw [if_pos (wdB_iff.mpr ⟨c1, c2, hj⟩)]
        rw [e] at hQ; exact hQ
      · intro j hj ih hi
        refine w_X8_isWord_28 hs hk _ (br_f (nI_ge hj (by omega)) ?_)
        rw [t.2.1, nI_add, nI_clamp (show plc tp n p + j < 2 ^ 31 by omega), nI_clamp (show j < 2 ^ 31 by omega), et _ (by omega), nI_1]
        refine ⟨vp_in_nI (by omega) (by decide), vp_in_nI hj (by omega), br_c (fun c3 => ih fun i h2 => ?_) (fun c3 => no fun e => c3 ((wdB_iff.mp e).2.2 j hj))⟩
        by_cases c4 : i = j
        · rw [c4]; exact c3
        · exact hi i (by omega)
    exact K 0 (by omega) (fun i hi => by omega)
  · show nI _ = nI _
    rw [(wdB_iff.mp e).2.1]
end TC
