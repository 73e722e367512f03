/-! texts: the reference reads tests, lines, a text -/
section RN
variable {tp : Nat → Int32} {n : Nat} {E : Envt} {d : Nat} {Q : Pst} {h : mS} {I : mI} {L : mL} {s : PS}
theorem pm_stT {l k : Nat} {w g t : Int32} (r : PMs tp n I L s) (c : k < 4 ∧ l < 16) : PMs tp n (uI (uI (uI (uI I 130 (4 * l + k) w) 131 (4 * l + k) g) 132 (4 * l + k) t) 127 l (nI k + 1)) L (stT s l k w g t) := by
  have e : stT s l k w g t = setA (setA (setA (setA s 130 (4 * l + k) w) 131 (4 * l + k) g) 132 (4 * l + k) t) 127 l (nI k + 1) := by
    unfold stT; rw [if_pos c]; rfl
  rw [e]
  exact (((r.setA (by decide) (by decide)).setA (by decide) (by decide)).setA (by decide) (by decide)).setA (by decide) (by decide)
theorem m_test2 (hs : SL h) (tb : ∀ i, i < n → byt (tp i)) (n5 : n ≤ 500) {l k : Nat} {b : Bool} (hl : l ≤ 16) (hk : k ≤ 500) (r : PMs tp n I L s) (hp : s.p ≤ n) (hQ : ∀ I' L', FM2 I I' → PMb tp n I' L' (ts2 tp n s l k b) → Q (some (.int (tf (ts2 tp n s l k b).1))) h I' L') : (J E mX12_test (d + 2) Q 0 0 30 [some (.ref (eB E + 83)), some (.int (nI l)), some (.int (nI k)), some (.int (tf b)), none, none, none, none] [] h I L) := by
  have b1 := nxt_le (tp := tp) hp
  have b2 := nxt_le (tp := tp) b1
  have ek : 4 * nI l + nI k = nI (4 * l + k) := by rw [N4, pk_mul, nI_add]
  have en : ∀ w : Int32, (if tf b = 0 then w else w + 16) = (if b = true then w + 16 else w) := fun w => by cases b <;> rfl
  have put : ∀ {I' : mI} {L' : mL} {s' : PS} {w g t : Int32}, FM2 I I' → PMs tp n I' L' s' → ts2 tp n s l k b = (true, stT s' l k w g t) → (((4 ≤ nI k) → Q (some (.int 1)) h I' L') ∧ (¬ (4 ≤ nI k) → (((16 ≤ nI l) → Q (some (.int 1)) h I' L') ∧ (¬ (16 ≤ nI l) → (vp_in ((4 * nI l) + nI k) 64 ∧ (vp_in (nI l) 17 ∧ Q (some (.int 1)) h (uI (uI (uI (uI I' 130 (((4 * nI l) + nI k).toNatClampNeg) w) 131 (((4 * nI l) + nI k).toNatClampNeg) g) 132 (((4 * nI l) + nI k).toNatClampNeg) t) 127 (nI l).toNatClampNeg (nI k + 1)) L')))))) := by
    intro I' L' s' w g t f' r' e
    rw [e] at hQ
    by_cases c4 : k < 4
    · refine br_f (show ¬ (4 : Int32) ≤ nI k from nI_ge (show k < 4 by omega) (by decide)) ?_
      by_cases c16 : l < 16
      · refine br_f (show ¬ (16 : Int32) ≤ nI l from nI_ge (show l < 16 by omega) (by decide)) ?_
        rw [ek, nI_clamp (show 4 * l + k < 2 ^ 31 by omega), nI_clamp (show l < 2 ^ 31 by omega)]
        exact ⟨vp_in_nI (by omega) (by decide), vp_in_nI (by omega) (by decide), hQ _ _ (FM2.tr f' (FM2.tr (FM2.tr (FM2.tr FM2.u FM2.u) FM2.u) FM2.u)) (PMb.t (pm_stT r' ⟨c4, c16⟩))⟩
      · refine br_t (show (16 : Int32) ≤ nI l from nI_le (show 16 ≤ l by omega) (by omega)) ?_
        have e2 : stT s' l k w g t = s' := by unfold stT; rw [if_neg (fun z => c16 z.2)]
        rw [e2] at hQ
        exact hQ _ _ f' (PMb.t r')
    · refine br_t (show (4 : Int32) ≤ nI k from nI_le (show 4 ≤ k by omega) (by omega)) ?_
      have e2 : stT s' l k w g t = s' := by unfold stT; rw [if_neg (fun z => c4 z.1)]
      rw [e2] at hQ
      exact hQ _ _ f' (PMb.t r')
  have no : ∀ {I' : mI} {L' : mL} {s' : PS}, FM2 I I' → PMs tp n I' L' s' → ts2 tp n s l k b = (false, s') → CT E mX12_wrong (d + 1) 0 0 [.ref (eB E + 83)] h I' L' (qi h L' fun r I2 => (bz r ∧ Q (some (.int r)) h I2 L')) := by
    intro I' L' s' f' r' e
    rw [e] at hQ
    exact m_wrong (tp := tp) (n := n) (s := s') hs r'.1.1 (fun I2 f2 r2 => qi_i ⟨Or.inl rfl, hQ I2 L' (FM2.tr f' f2) r2⟩)
  refine w_X12_test_30 hs _ _ _ (m_sbj r.1 hs (qi_i ?_))
  refine br_c (fun c1 => no FM2.rf r (by unfold ts2; rw [if_pos c1])) (fun c1 => ?_)
  refine m_adv hs tb n5 r hp (fun I1 L1 f1 r1 => qvL_i ?_)
  rw [en]
  refine br_c (fun c2 => put f1 r1 (by unfold ts2; rw [if_neg c1, if_pos c2])) (fun c2 => ?_)
  have t1 := r1.1
  rw [t1.2.2.1]
  have p94 : sgT tp n (adv tp n s).p = true → ∀ x6 : Int32, (J E mX12_test (d + 2) Q 0 0 104 [some (.ref (eB E + 83)), some (.int (nI l)), some (.int (nI k)), some (.int (tf b)), some (.int (sbj tp n s.p)), some (.int (tp (plc tp n (adv tp n s).p))), some (.int x6), none] [] h I1 L1) := by
    intro hg x6
    refine w_X12_test_104 hs _ _ _ _ _ _ ?_
    refine m_adv hs tb n5 r1 b1 (fun I2 L2 f2 r2 => qvL_i ?_)
    have t2 := r2.1
    rw [t2.2.2.1]
    by_cases c5 : knd tp n (adv tp n (adv tp n s)).p = 2
    · refine br_t ((sM_i (knd_c _)).2.1.mpr c5) ?_
      rw [t2.2.2.2.1 c5]
      refine m_adv hs tb n5 r2 b2 (fun I3 L3 f3 r3 => qvL_i ?_)
      rw [en]
      exact put (FM2.tr f1 (FM2.tr f2 f3)) r3 (by unfold ts2; rw [if_neg c1, if_neg c2, if_neg (fun z => z hg), if_neg (fun z => z c5)])
    · exact br_f (fun e => c5 ((sM_i (knd_c _)).2.1.mp e)) (no (FM2.tr f1 f2) r2 (by unfold ts2; rw [if_neg c1, if_neg c2, if_neg (fun z => z hg), if_pos c5]))
  have isg : ∀ c : Int32, knd tp n (adv tp n s).p = 3 → tp (plc tp n (adv tp n s).p) = c → (c = 60 ∨ c = 62 ∨ c = 61) → sgT tp n (adv tp n s).p = true := fun c h1 h2 h3 => by
    unfold sgT
    rw [h1, h2]
    rcases h3 with rfl | rfl | rfl <;> rfl
  by_cases c3 : knd tp n (adv tp n s).p = 3
  · refine br_t ((sM_i (knd_c _)).2.2.1.mpr c3) ?_
    rw [t1.2.2.2.2.1 c3]
    refine br_c (fun c4 => p94 (isg 60 c3 c4 (Or.inl rfl)) _) (fun c4 => br_c (fun c5 => p94 (isg 62 c3 c5 (Or.inr (Or.inl rfl))) _) (fun c5 => br_c (fun c6 => p94 (isg 61 c3 c6 (Or.inr (Or.inr rfl))) _) (fun c6 => ?_)))
    refine no f1 r1 ?_
    have hg : ¬ sgT tp n (adv tp n s).p = true := by unfold sgT; simp [c4, c5, c6]
    unfold ts2; rw [if_neg c1, if_neg c2, if_pos hg]
  · refine br_f (fun e => c3 ((sM_i (knd_c _)).2.2.1.mp e)) (no f1 r1 ?_)
    have hg : ¬ sgT tp n (adv tp n s).p = true := by unfold sgT; simp [c3]
    unfold ts2; rw [if_neg c1, if_neg c2, if_pos hg]
theorem m_test (hs : SL h) (tb : ∀ i, i < n → byt (tp i)) (n5 : n ≤ 500) {l k : Nat} (hl : l ≤ 16) (hk : k ≤ 500) (r : PMs tp n I L s) (hp : s.p ≤ n) (hQ : ∀ I' L', FM2 I I' → PMb tp n I' L' (tsS tp n s l k) → Q (some (.int (tf (tsS tp n s l k).1))) h I' L') : (CT E mX12_test (d + 2) 0 0 [.ref (eB E + 83), .int (nI l), .int (nI k)] h I L Q) := by
  have p14 : ∀ {I' : mI}, FM2 I I' → PMs tp n I' L (ts0 tp n s k) → (J E mX12_test (d + 2) Q 0 0 14 [some (.ref (eB E + 83)), some (.int (nI l)), some (.int (nI k)), none, none, none, none, none] [] h I' L) := by
    intro I' f' r'
    unfold tsS at hQ
    have e0 : (ts0 tp n s k).p = s.p := ts0_p
    refine w_X12_test_14 hs _ _ ?_
    have ew := m_wd (k := 1) r'.1 (by decide) (C := 7237492) (by decide)
    have eb : bI (I' 83 48 = 2 ∧ lg_cmp (L 83 50) 7237492 = 0) = tf (wdB tp n (ts0 tp n s k).p 1) := by
      unfold tf
      by_cases c : wdB tp n (ts0 tp n s k).p 1 = true
      · rw [bI_t (ew.mpr c), if_pos c]
      · rw [bI_f (fun e => c (ew.mp e)), if_neg c]
    rw [eb]
    by_cases c : wdB tp n (ts0 tp n s k).p 1 = true
    · refine br_t (ew.mpr c) ?_
      have e1 : ts1 tp n (ts0 tp n s k) = adv tp n (ts0 tp n s k) := by unfold ts1; rw [if_pos c]
      rw [e1] at hQ
      refine m_adv hs tb n5 r' (by rw [e0]; exact hp) (fun I2 L2 f2 r2 => qvL_i ?_)
      exact m_test2 hs tb n5 hl hk r2 (by rw [adv_p, e0]; exact nxt_le hp) (fun I3 L3 f3 r3 => hQ I3 L3 (FM2.tr f' (FM2.tr f2 f3)) r3)
    · refine br_f (fun e => c (ew.mp e)) ?_
      have e1 : ts1 tp n (ts0 tp n s k) = ts0 tp n s k := by unfold ts1; rw [if_neg c]
      rw [e1] at hQ
      exact m_test2 hs tb n5 hl hk r' (by rw [e0]; exact hp) (fun I3 L3 f3 r3 => hQ I3 L3 (FM2.tr f' f3) r3)
  refine w_X12_test hs _ _ ?_
  by_cases c : k = 4
  · refine br_t (by rw [c]; rfl) ?_
    refine m_later hs (by decide) r (fun I' f' r' => qv_i (p14 f' ?_))
    unfold ts0; rw [if_pos c]; exact r'
  · refine br_f (fun e => c ((nI_eq (by omega) (by decide)).mp (show nI k = nI 4 from e))) (p14 FM2.rf ?_)
    unfold ts0; rw [if_neg c]; exact r
/-- the act and the rest of the line -/
theorem m_ac2 (hs : SL h) (tb : ∀ i, i < n → byt (tp i)) (n5 : n ≤ 500) {l : Nat} {x w : Int32} (hl : l ≤ 16) (r : PMs tp n I L s) (hp : s.p ≤ n) (hw : I 128 l = w) (hQ : ∀ I' L', FM2 I I' → PMb tp n I' L' (ac2 tp n s w l) → Q (some (.int (tf (ac2 tp n s w l).1))) h I' L') :
    ((((I 128 (nI l).toNatClampNeg) = 0) → (CT E mX12_need (d + 2) 0 0 [.ref (eB E + 83), .int 59] h (uI (uI I 129 (nI l).toNatClampNeg 0) 83 54 ((I 83 54) + 1)) L (qiL h fun r15 I13 L14 => (bz r15 ∧ Q (some (.int r15)) h I13 L14)))) ∧ (¬ ((I 128 (nI l).toNatClampNeg) = 0) → ((((I 83 48) = 3) → ((((I 128 (nI l).toNatClampNeg) = 2) → ((((I 83 49) ≤ 100) → J E mX12_oneLine (d + 3) Q 0 0 191 [some (.ref (eB E + 83)), some (.int x), some (.int (nI l)), none, none] [] h (uI I 129 (nI l).toNatClampNeg 0) L) ∧ (¬ ((I 83 49) ≤ 100) → (CT E mX12_later (d + 2) 0 0 [.ref (eB E + 83), .int 2, .int (I 83 47)] h (uI I 129 (nI l).toNatClampNeg 0) L (qv h L fun I19 => J E mX12_oneLine (d + 3) Q 0 0 191 [some (.ref (eB E + 83)), some (.int x), some (.int (nI l)), none, none] [] h I19 L))))) ∧ (¬ ((I 128 (nI l).toNatClampNeg) = 2) → J E mX12_oneLine (d + 3) Q 0 0 191 [some (.ref (eB E + 83)), some (.int x), some (.int (nI l)), none, none] [] h (uI I 129 (nI l).toNatClampNeg 0) L))) ∧ (¬ ((I 83 48) = 3) → (CT E mX12_wrong (d + 2) 0 0 [.ref (eB E + 83)] h (uI I 129 (nI l).toNatClampNeg 0) L (qi h L fun r21 I20 => (bz r21 ∧ Q (some (.int r21)) h I20 L))))))) := by
  have r1 : PMs tp n (uI I 129 l 0) L (setA s 129 l 0) := r.setA (by decide) (by decide)
  have fin : ∀ {I' : mI} {s' : PS}, FM2 I I' → PMs tp n I' L s' → s'.p = s.p → knd tp n s.p = 2 → ac2 tp n s w l = needS tp n (incL (adv tp n (setA s' 129 l (wor tp n s.p)))) 59 → (J E mX12_oneLine (d + 3) Q 0 0 191 [some (.ref (eB E + 83)), some (.int x), some (.int (nI l)), none, none] [] h I' L) := by
    intro I' s' f' r' ep k2 e
    rw [e] at hQ
    refine w_X12_oneLine_191 hs _ _ ⟨vp_in_nI (by omega) (by decide), ?_⟩
    have t' := r'.1
    rw [ep] at t'
    rw [t'.2.2.2.1 k2, nI_clamp (show l < 2 ^ 31 by omega)]
    have r2 : PMs tp n (uI I' 129 l (wor tp n s.p)) L (setA s' 129 l (wor tp n s.p)) := r'.setA (by decide) (by decide)
    refine m_adv hs tb n5 r2 (by show s'.p ≤ n; rw [ep]; exact hp) (fun I2 L2 f2 r3 => qvL_i ?_)
    refine m_need hs tb n5 r3.incL (by show nxt tp n s'.p ≤ n; rw [ep]; exact nxt_le hp) (fun I3 L3 f3 r4 => qiL_i ⟨?_, hQ I3 L3 (FM2.tr f' (FM2.tr FM2.u (FM2.tr f2 (FM2.tr FM2.u f3)))) r4⟩)
    unfold tf; split
    · exact Or.inr rfl
    · exact Or.inl rfl
  have t := r.1
  rw [nI_clamp (show l < 2 ^ 31 by omega), hw, t.2.2.1]
  refine br_c (fun c => ?_) (fun c => ?_)
  · have e : ac2 tp n s w l = needS tp n (incL (setA s 129 l 0)) 59 := by unfold ac2; rw [if_pos c]
    rw [e] at hQ
    have ei : I 83 54 = uI I 129 l 0 83 54 := by rw [uI_ne (by decide)]
    rw [ei]
    refine m_need hs tb n5 r1.incL hp (fun I3 L3 f3 r4 => qiL_i ⟨?_, hQ I3 L3 (FM2.tr FM2.u (FM2.tr FM2.u f3)) r4⟩)
    unfold tf; split
    · exact Or.inr rfl
    · exact Or.inl rfl
  · by_cases k2 : knd tp n s.p = 2
    · refine br_t ((sM_i (knd_c _)).2.1.mpr k2) ?_
      rw [t.2.2.2.1 k2]
      refine br_c (fun c2 => br_c (fun c3 => ?_) (fun c3 => ?_)) (fun c2 => ?_)
      · refine fin FM2.u r1 rfl k2 ?_
        unfold ac2; rw [if_neg c, if_neg (fun z => z k2), if_neg (fun z => z.2 c3)]
      · have ei : I 83 47 = uI I 129 l 0 83 47 := by rw [uI_ne (by decide)]
        rw [ei]
        refine m_later hs (by decide) r1 (fun I2 f2 r2 => qv_i (fin (FM2.tr FM2.u f2) r2 ltr_p k2 ?_))
        unfold ac2; rw [if_neg c, if_neg (fun z => z k2), if_pos ⟨c2, c3⟩]
      · refine fin FM2.u r1 rfl k2 ?_
        unfold ac2; rw [if_neg c, if_neg (fun z => z k2), if_neg (fun z => c2 z.1)]
    · refine br_f (fun e => k2 ((sM_i (knd_c _)).2.1.mp e)) ?_
      have e : ac2 tp n s w l = (false, setA s 129 l 0) := by unfold ac2; rw [if_neg c, if_pos k2]
      rw [e] at hQ
      exact m_wrong (tp := tp) (n := n) (s := setA s 129 l 0) hs r1.1.1 (fun I2 f2 r2 => qi_i ⟨Or.inl rfl, hQ I2 L (FM2.tr FM2.u f2) r2⟩)
theorem tf_bz {b : Bool} : bz (tf b) := by cases b <;> first | exact Or.inl rfl | exact Or.inr rfl
theorem tf_0 {b : Bool} : tf b = 0 ↔ b = false := by cases b <;> decide
/-- at the end no test stands -/
theorem wd_end {p k : Nat} (h : knd tp n p = 0) : wdB tp n p k = false := by
  unfold wdB
  rw [h]
  rfl
theorem ts_end {l k : Nat} (h : knd tp n s.p = 0) : (tsS tp n s l k).1 = false := by
  have e0 : (ts0 tp n s k).p = s.p := ts0_p
  have h1 : ts1 tp n (ts0 tp n s k) = ts0 tp n s k := by
    unfold ts1
    rw [e0, wd_end h, if_neg (by decide)]
  unfold tsS
  rw [h1]
  have hsb : sbj tp n (ts0 tp n s k).p = (-1) := by
    rw [e0]
    unfold sbj
    simp [wd_end h]
  unfold ts2
  rw [if_pos hsb]
def acX (E : Envt) (d : Nat) (Q : Pst) (h : mS) (w : Int32) (l : Nat) (I' : mI) (L' : mL) : Prop := (CT E mX12_actWord (d + 2) 0 0 [.ref (eB E + 83), .int w] h I' L' (qi h L' fun r7 I6 => (vp_in (nI l) 17 ∧ (((r7 = (-1)) → (CT E mX12_wrong (d + 2) 0 0 [.ref (eB E + 83)] h (uI I6 128 (nI l).toNatClampNeg r7) L' (qi h L' fun r23 I22 => (bz r23 ∧ Q (some (.int r23)) h I22 L')))) ∧ (¬ (r7 = (-1)) → (CT E mX12_token (d + 2) 0 0 [.ref (eB E + 83)] h (uI I6 128 (nI l).toNatClampNeg r7) L' (qvL h fun I10 L11 => ((((I10 128 (nI l).toNatClampNeg) = 0) → (CT E mX12_need (d + 2) 0 0 [.ref (eB E + 83), .int 59] h (uI (uI I10 129 (nI l).toNatClampNeg 0) 83 54 ((I10 83 54) + 1)) L11 (qiL h fun r15 I13 L14 => (bz r15 ∧ Q (some (.int r15)) h I13 L14)))) ∧ (¬ ((I10 128 (nI l).toNatClampNeg) = 0) → ((((I10 83 48) = 3) → ((((I10 128 (nI l).toNatClampNeg) = 2) → ((((I10 83 49) ≤ 100) → J E mX12_oneLine (d + 3) Q 0 0 191 [some (.ref (eB E + 83)), some (.int w), some (.int (nI l)), none, none] [] h (uI I10 129 (nI l).toNatClampNeg 0) L11) ∧ (¬ ((I10 83 49) ≤ 100) → (CT E mX12_later (d + 2) 0 0 [.ref (eB E + 83), .int 2, .int (I10 83 47)] h (uI I10 129 (nI l).toNatClampNeg 0) L11 (qv h L11 fun I19 => J E mX12_oneLine (d + 3) Q 0 0 191 [some (.ref (eB E + 83)), some (.int w), some (.int (nI l)), none, none] [] h I19 L11))))) ∧ (¬ ((I10 128 (nI l).toNatClampNeg) = 2) → J E mX12_oneLine (d + 3) Q 0 0 191 [some (.ref (eB E + 83)), some (.int w), some (.int (nI l)), none, none] [] h (uI I10 129 (nI l).toNatClampNeg 0) L11))) ∧ (¬ ((I10 83 48) = 3) → (CT E mX12_wrong (d + 2) 0 0 [.ref (eB E + 83)] h (uI I10 129 (nI l).toNatClampNeg 0) L11 (qi h L11 fun r21 I20 => (bz r21 ∧ Q (some (.int r21)) h I20 L11))))))))))))))
theorem m_acS (hs : SL h) (tb : ∀ i, i < n → byt (tp i)) (n5 : n ≤ 500) {l : Nat} {w : Int32} (hl : l ≤ 16) (r : PMs tp n I L s) (hp : s.p ≤ n) (hQ : ∀ I' L', FM2 I I' → PMb tp n I' L' (acS tp n s w l) → Q (some (.int (tf (acS tp n s w l).1))) h I' L') : acX E d Q h w l I L := by
  have cl : (nI l).toNatClampNeg = l := nI_clamp (by omega)
  have vl : vp_in (nI l) 17 := vp_in_nI (by omega) (by decide)
  unfold acX
  refine m_act r.1 hs (qi_i ⟨vl, ?_⟩)
  refine br_c (fun c => ?_) (fun c => ?_)
  · have e2 : acS tp n s w l = (false, setA s 128 l (-1)) := by unfold acS; rw [if_pos c]
    rw [e2] at hQ
    have r2 : PMs tp n (uI I 128 l (-1)) L (setA s 128 l (-1)) := r.setA (by decide) (by decide)
    rw [cl, c]
    exact m_wrong (tp := tp) (n := n) (s := setA s 128 l (-1)) hs r2.1.1 (fun I2 f2 r3 => qi_i ⟨Or.inl rfl, hQ I2 L (FM2.tr (FM2.u (a := 128)) f2) r3⟩)
  · have e2 : acS tp n s w l = ac2 tp n (adv tp n (setA s 128 l (actA tp n w s.p))) (actA tp n w s.p) l := by unfold acS; rw [if_neg c]
    rw [e2] at hQ
    have r2 : PMs tp n (uI I 128 (nI l).toNatClampNeg (actA tp n w s.p)) L (setA s 128 l (actA tp n w s.p)) := by rw [cl]; exact r.setA (by decide) (by decide)
    refine m_adv hs tb n5 r2 hp (fun I3 L3 f3 r3 => qvL_i ?_)
    have h128 : I3 128 l = actA tp n w s.p := by
      rw [r3.2.2.2.2.1 128 (by decide) (by decide)]
      show uI s.a 128 l (actA tp n w s.p) 128 l = _
      rw [uI_eq]
    exact m_ac2 hs tb n5 hl r3 (nxt_le hp) h128 (fun I4 L4 f4 r4 => hQ I4 L4 (FM2.tr (FM2.u (a := 128)) (FM2.tr f3 f4)) r4)
theorem m_line (hs : SL h) (tb : ∀ i, i < n → byt (tp i)) (n5 : n ≤ 500) {w : Int32} (r : PMs tp n I L s) (hp : s.p ≤ n) (hnl : s.nl ≤ 500) (hQ : ∀ I' L', FM2 I I' → PMb tp n I' L' (lnS tp n s w) → Q (some (.int (tf (lnS tp n s w).1))) h I' L') : (CT E mX12_oneLine (d + 3) 0 0 [.ref (eB E + 83), .int w] h I L Q) := by
  have hl : l16 s.nl ≤ 16 := by unfold l16; split <;> omega
  have e16 : (if 16 ≤ I 83 54 then 16 else I 83 54 : Int32) = nI (l16 s.nl) := by
    rw [r.2.2.2.1]
    unfold l16
    by_cases c : 16 ≤ s.nl
    · rw [if_pos c, if_pos (show (16 : Int32) ≤ nI s.nl from nI_le (show 16 ≤ s.nl by omega) (by omega))]; rfl
    · rw [if_neg c, if_neg (show ¬ (16 : Int32) ≤ nI s.nl from nI_ge (show s.nl < 16 by omega) (by decide))]
  have cl : (nI (l16 s.nl)).toNatClampNeg = l16 s.nl := nI_clamp (by omega)
  have vl : vp_in (nI (l16 s.nl)) 17 := vp_in_nI (by omega) (by decide)
  have act : ∀ {I' : mI} {L' : mL} {s' : PS}, FM2 I I' → PMs tp n I' L' s' → s'.p ≤ n → lnS tp n s w = acS tp n s' w (l16 s.nl) → acX E d Q h w (l16 s.nl) I' L' := by
    intro I' L' s' f' r' hp' e
    rw [e] at hQ
    exact m_acS hs tb n5 hl r' hp' (fun I4 L4 f4 r4 => hQ I4 L4 (FM2.tr f' f4) r4)
  have p37 : ∀ {I' : mI}, FM2 I I' → PMs tp n I' L (if s.nl = 16 then ltr tp n s 3 else s) → (J E mX12_oneLine (d + 3) Q 0 0 37 [some (.ref (eB E + 83)), some (.int w), some (.int (nI (l16 s.nl))), none, none] [] h I' L) := by
    intro I' f' r'
    have r2 : PMs tp n (uI I' 127 (l16 s.nl) 0) L (ln0 tp n s) := r'.setA (by decide) (by decide)
    have e0 := ln0_p (tp := tp) (n := n) (s := s)
    have hp0 : (ln0 tp n s).p ≤ n := by rw [e0]; exact hp
    have ew := m_wd (k := 0) r2.1 (by decide) (C := 26982) (by decide)
    refine w_X12_oneLine_37 hs _ _ ⟨vl, ?_⟩
    rw [cl]
    by_cases c : wdB tp n (ln0 tp n s).p 0 = true
    · refine br_t (ew.mpr c) ?_
      have el : lnS tp n s w = ln1 tp n (tlS tp n (n + 1) (ln0 tp n s) (l16 s.nl) 0) w (l16 s.nl) := by unfold lnS; rw [if_pos c]
      have K : ∀ f k I2 L2 s2 b, n + 1 ≤ f + s2.p → k ≤ s2.p → s2.p ≤ n → FM2 I I2 → PMs tp n I2 L2 s2 → (b = true → tlS tp n (n + 1) (ln0 tp n s) (l16 s.nl) 0 = tlS tp n f s2 (l16 s.nl) k) → (b = false → tlS tp n (n + 1) (ln0 tp n s) (l16 s.nl) 0 = (true, s2)) → (J E mX12_oneLine (d + 3) Q 0 0 59 [some (.ref (eB E + 83)), some (.int w), some (.int (nI (l16 s.nl))), some (.int (tf b)), some (.int (nI k))] [] h I2 L2) := by
        intro f
        induction f with
        | zero => intro k I2 L2 s2 b h1 h2 h3; omega
        | succ f ih =>
          intro k I2 L2 s2 b h1 h2 h3 f2 r2 eb1 eb2
          refine w_X12_oneLine_59 hs _ _ _ _ ?_
          cases b with
          | false =>
            refine br_t rfl ?_
            have e1 := eb2 rfl
            refine m_need hs tb n5 r2 h3 (fun I3 L3 f3 r3 => qiL_i ?_)
            rw [e1] at el
            by_cases c2 : (needS tp n s2 58).1 = false
            · have el2 : lnS tp n s w = needS tp n s2 58 := by
                rw [el]; unfold ln1; rw [if_neg (show ¬ (true, s2).1 = false from fun z => absurd (show true = false from z) (by decide)), if_pos c2]
              rw [el2, c2] at hQ
              rw [c2]
              exact br_t rfl (hQ I3 L3 (FM2.tr f2 f3) r3)
            · have el2 : lnS tp n s w = acS tp n (needS tp n s2 58).2 w (l16 s.nl) := by
                rw [el]; unfold ln1; rw [if_neg (show ¬ (true, s2).1 = false from fun z => absurd (show true = false from z) (by decide)), if_neg c2]
              have c3 : (needS tp n s2 58).1 = true := by simpa using c2
              rw [c3]
              exact br_f (by decide) (act (FM2.tr f2 f3) (r3.1 c3) (needS_p h3).2.1 el2)
          | true =>
            refine br_f (by decide) ?_
            have e1 := eb1 rfl
            refine m_adv hs tb n5 r2 h3 (fun I3 L3 f3 r3 => qvL_i ?_)
            have hp3 : (adv tp n s2).p ≤ n := nxt_le h3
            have hg3 : s2.p ≤ (adv tp n s2).p := nxt_ge'
            have z := tsS_p (tp := tp) (l := l16 s.nl) (k := k) hp3
            refine m_test hs tb n5 hl (by omega) r3 hp3 (fun I4 L4 f4 r4 => qiL_i ?_)
            have et : tlS tp n (f + 1) s2 (l16 s.nl) k = if (tsS tp n (adv tp n s2) (l16 s.nl) k).1 = false then tsS tp n (adv tp n s2) (l16 s.nl) k else if wdB tp n (tsS tp n (adv tp n s2) (l16 s.nl) k).2.p 13 = true then tlS tp n f (tsS tp n (adv tp n s2) (l16 s.nl) k).2 (l16 s.nl) (k + 1) else tsS tp n (adv tp n s2) (l16 s.nl) k := rfl
            rw [et] at e1
            by_cases c2 : (tsS tp n (adv tp n s2) (l16 s.nl) k).1 = false
            · rw [if_pos c2] at e1
              have el2 : lnS tp n s w = tsS tp n (adv tp n s2) (l16 s.nl) k := by
                rw [el, e1]; unfold ln1; rw [if_pos c2]
              rw [el2, c2] at hQ
              rw [c2]
              exact br_t rfl (hQ I4 L4 (FM2.tr f2 (FM2.tr f3 f4)) r4)
            · rw [if_neg c2] at e1
              have c3 : (tsS tp n (adv tp n s2) (l16 s.nl) k).1 = true := by simpa using c2
              have r5 := r4.1 c3
              have ew2 := m_wd (k := 13) r5.1 (by decide) (C := 6385252) (by decide)
              rw [c3]
              refine br_f (by decide) ?_
              have eb : bI (I4 83 48 = 2 ∧ lg_cmp (L4 83 50) 6385252 = 0) = tf (wdB tp n (tsS tp n (adv tp n s2) (l16 s.nl) k).2.p 13) := by
                unfold tf
                by_cases c4 : wdB tp n (tsS tp n (adv tp n s2) (l16 s.nl) k).2.p 13 = true
                · rw [bI_t (ew2.mpr c4), if_pos c4]
                · rw [bI_f (fun e => c4 (ew2.mp e)), if_neg c4]
              rw [eb, nI_1]
              by_cases c4 : wdB tp n (tsS tp n (adv tp n s2) (l16 s.nl) k).2.p 13 = true
              · rw [if_pos c4] at e1
                rw [c4]
                have mv : s2.p < (adv tp n s2).p := by
                  apply Classical.byContradiction
                  intro hn
                  have e5 : (adv tp n s2).p = s2.p := by omega
                  have k0 : knd tp n s2.p = 0 := Classical.byContradiction fun z => by
                    have := nxt_mv z
                    rw [adv_p] at e5; omega
                  exact absurd c3 (by rw [ts_end (by rw [e5]; exact k0)]; decide)
                exact ih (k + 1) I4 L4 _ true (by omega) (by omega) z.2 (FM2.tr f2 (FM2.tr f3 f4)) r5 (fun _ => e1) (fun q => absurd q (by decide))
              · rw [if_neg c4] at e1
                have c5 : wdB tp n (tsS tp n (adv tp n s2) (l16 s.nl) k).2.p 13 = false := by simpa using c4
                rw [c5]
                have mv : s2.p < (adv tp n s2).p := by
                  apply Classical.byContradiction
                  intro hn
                  have e5 : (adv tp n s2).p = s2.p := by omega
                  have k0 : knd tp n s2.p = 0 := Classical.byContradiction fun z => by
                    have := nxt_mv z
                    rw [adv_p] at e5; omega
                  exact absurd c3 (by rw [ts_end (by rw [e5]; exact k0)]; decide)
                exact ih (k + 1) I4 L4 _ false (by omega) (by omega) z.2 (FM2.tr f2 (FM2.tr f3 f4)) r5 (fun q => absurd q (by decide)) (fun _ => by rw [e1]; exact Prod.ext c3 rfl)
      exact K (n + 1) 0 _ _ (ln0 tp n s) true (by omega) (by omega) hp0 (FM2.tr f' FM2.u) r2 (fun _ => rfl) (fun q => absurd q (by decide))
    · refine br_f (fun e => c (ew.mp e)) ?_
      have el : lnS tp n s w = acS tp n (ln0 tp n s) w (l16 s.nl) := by unfold lnS; rw [if_neg c]
      have z := act (FM2.tr f' FM2.u) r2 hp0 el
      unfold acX at z
      rw [cl] at z
      refine z.mono fun v h1 I1 L1 hq => ?_
      obtain ⟨q1, q2, v', q3, q4⟩ := hq
      exact ⟨q1, q2, v', q3, q4.2⟩
  refine w_X12_oneLine hs _ ?_
  rw [e16]
  rintro y2 rfl
  rw [r.2.2.2.1]
  by_cases c : s.nl = 16
  · refine br_t (by rw [c]; rfl) ?_
    refine m_later hs (by decide) r (fun I' f' r' => qv_i (p37 f' ?_))
    rw [if_pos c]; exact r'
  · refine br_f (fun e => c ((nI_eq (by omega) (by decide)).mp (show nI s.nl = nI 16 from e))) (p37 FM2.rf ?_)
    rw [if_neg c]; exact r
end RN
