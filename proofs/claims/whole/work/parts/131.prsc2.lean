/-! texts: the component reads tests, lines -/
section PD
variable {tp : Nat → Int32} {n : Nat} {w : Int32} {E : Envt} {d : Nat} {Q : Pst} {h : mS} {I : mI} {L : mL} {s : PS} {k : Nat}
theorem tf_t {b : Bool} (h : b = true) : tf b = 1 := by rw [h]; rfl
theorem tf_f {b : Bool} (h : ¬ b = true) : tf b = 0 := by cases b <;> first | rfl | exact absurd rfl h
theorem tf_z {b : Bool} : (tf b = 0) ↔ ¬ b = true := by cases b <;> decide
theorem c_sbj (hs : SL h) (n5 : n ≤ 500) (r : PCs tp n w I s k) (hp : s.p ≤ n) (hQ : Q (some (.int (sbj tp n s.p))) h I L) : (CT E mX8_subjectAtHand (d + 5) 0 0 [.ref (eB E + 47)] h I L Q) := by
  have iw : ∀ (j : Nat) (Q' : Pst), j < 19 → Q' (some (.int (tf (wdB tp n s.p j)))) h I L → CT E mX8_isWord (d + 4) 0 0 [.ref (eB E + 47), .ref (eK E j)] h I L Q' := fun j Q' hj hq => c_isWord hs n5 hj hp r.2.2.2.2.2 r.1 hq
  unfold sbj at hQ
  refine w_X8_subjectAtHand hs ?_
  refine iw 2 _ (by decide) (qi_i ⟨fun c2 => ?_, fun c2 => ?_⟩)
  · rw [tf_z] at c2
    rw [if_neg c2] at hQ
    refine iw 3 _ (by decide) (qi_i ⟨fun c3 => ?_, fun c3 => ?_⟩)
    · rw [tf_z] at c3
      rw [if_neg c3] at hQ
      refine iw 4 _ (by decide) (qi_i ⟨fun c4 => ?_, fun c4 => ?_⟩)
      · rw [tf_z] at c4
        rw [if_neg c4] at hQ
        refine iw 5 _ (by decide) (qi_i ⟨fun c5 => ?_, fun c5 => ?_⟩)
        · rw [tf_z] at c5
          rw [if_neg c5] at hQ
          refine iw 6 _ (by decide) (qi_i ⟨fun c6 => ?_, fun c6 => ?_⟩)
          · rw [tf_z] at c6
            rw [if_neg c6] at hQ
            refine iw 7 _ (by decide) (qi_i ⟨fun c7 => ?_, fun c7 => ?_⟩)
            · rw [tf_z] at c7
              rw [if_neg c7] at hQ
              refine iw 8 _ (by decide) (qi_i ⟨fun c8 => ?_, fun c8 => ?_⟩)
              · rw [tf_z] at c8
                rw [if_neg c8] at hQ
                refine iw 9 _ (by decide) (qi_i ⟨fun c9 => ?_, fun c9 => ?_⟩)
                · rw [tf_z] at c9
                  rw [if_neg c9] at hQ
                  refine iw 10 _ (by decide) (qi_i ⟨fun c10 => ?_, fun c10 => ?_⟩)
                  · rw [tf_z] at c10
                    rw [if_neg c10] at hQ
                    refine iw 11 _ (by decide) (qi_i ⟨fun c11 => ?_, fun c11 => ?_⟩)
                    · rw [tf_z] at c11
                      rw [if_neg c11] at hQ
                      refine iw 12 _ (by decide) (qi_i ⟨fun c12 => ?_, fun c12 => ?_⟩)
                      · rw [tf_z] at c12
                        rw [if_neg c12] at hQ; exact hQ
                      · rw [tf_z, Classical.not_not] at c12
                        rw [if_pos c12] at hQ; exact hQ
                    · rw [tf_z, Classical.not_not] at c11
                      rw [if_pos c11] at hQ; exact hQ
                  · rw [tf_z, Classical.not_not] at c10
                    rw [if_pos c10] at hQ; exact hQ
                · rw [tf_z, Classical.not_not] at c9
                  rw [if_pos c9] at hQ; exact hQ
              · rw [tf_z, Classical.not_not] at c8
                rw [if_pos c8] at hQ; exact hQ
            · rw [tf_z, Classical.not_not] at c7
              rw [if_pos c7] at hQ; exact hQ
          · rw [tf_z, Classical.not_not] at c6
            rw [if_pos c6] at hQ; exact hQ
        · rw [tf_z, Classical.not_not] at c5
          rw [if_pos c5] at hQ; exact hQ
      · rw [tf_z, Classical.not_not] at c4
        rw [if_pos c4] at hQ; exact hQ
    · rw [tf_z, Classical.not_not] at c3
      rw [if_pos c3] at hQ; exact hQ
  · rw [tf_z, Classical.not_not] at c2
    rw [if_pos c2] at hQ; exact hQ
theorem c_act (hs : SL h) (n5 : n ≤ 500) (r : PCs tp n w I s k) (hp : s.p ≤ n) (hQ : Q (some (.int (actA tp n w s.p))) h I L) : (CT E mX8_actAtHand (d + 5) 0 0 [.ref (eB E + 47)] h I L Q) := by
  have iw : ∀ (j : Nat) (Q' : Pst), j < 19 → Q' (some (.int (tf (wdB tp n s.p j)))) h I L → CT E mX8_isWord (d + 4) 0 0 [.ref (eB E + 47), .ref (eK E j)] h I L Q' := fun j Q' hj hq => c_isWord hs n5 hj hp r.2.2.2.2.2 r.1 hq
  unfold actA at hQ
  refine w_X8_actAtHand hs ?_
  rw [r.2.1]
  refine br_c (fun c => ?_) (fun c => ?_)
  · rw [if_pos c] at hQ
    refine iw 16 _ (by decide) (qi_i ⟨fun c2 => ?_, fun c2 => ?_⟩)
    · rw [tf_z] at c2
      rw [if_neg c2] at hQ
      refine iw 17 _ (by decide) (qi_i ⟨fun c3 => ?_, fun c3 => ?_⟩)
      · rw [tf_z] at c3
        rw [if_neg c3] at hQ
        refine iw 18 _ (by decide) (qi_i ⟨fun c4 => ?_, fun c4 => ?_⟩)
        · rw [tf_z] at c4
          rw [if_neg c4] at hQ; exact hQ
        · rw [tf_z, Classical.not_not] at c4
          rw [if_pos c4] at hQ; exact hQ
      · rw [tf_z, Classical.not_not] at c3
        rw [if_pos c3] at hQ; exact hQ
    · rw [tf_z, Classical.not_not] at c2
      rw [if_pos c2] at hQ; exact hQ
  · rw [if_neg c] at hQ
    refine iw 14 _ (by decide) (qi_i ⟨fun c2 => ?_, fun c2 => ?_⟩)
    · rw [tf_z] at c2
      rw [if_neg c2] at hQ
      refine iw 15 _ (by decide) (qi_i ⟨fun c3 => ?_, fun c3 => ?_⟩)
      · rw [tf_z] at c3
        rw [if_neg c3] at hQ; exact hQ
      · rw [tf_z, Classical.not_not] at c3
        rw [if_pos c3] at hQ; exact hQ
    · rw [tf_z, Classical.not_not] at c2
      rw [if_pos c2] at hQ; exact hQ
def PCb (tp : Nat → Int32) (n : Nat) (w : Int32) (I : mI) (r : Bool × PS) (k : Nat) : Prop := (r.1 = true → PCs tp n w I r.2 k ∧ PC8 I r.2 k) ∧ (r.1 = false → PCf tp n I r.2)
theorem PCb.t (r : PCs tp n w I s k) (r8 : PC8 I s k) : PCb tp n w I (true, s) k := ⟨fun _ => ⟨r, r8⟩, fun e => absurd (show true = false from e) (by decide)⟩
theorem PCb.f (r : PCf tp n I s) : PCb tp n w I (false, s) k := ⟨fun e => absurd (show false = true from e) (by decide), fun _ => r⟩
theorem and15b : ∀ v, v < 11 → ¬ (15 : Int32) < nI v ∧ (15 : Int32) < nI (v + 16) ∧ (5 ≤ nI v ↔ ¬ v < 5) := by decide
theorem c_test2 (hs : SL h) (n5 : n ≤ 500) {b : Bool} (r : PCs tp n w I s k) (r8 : PC8 I s k) (pi : PIf w s k) (hk : s.lf = 0 → k < 4) (hp : s.p ≤ n) (hQ : ∀ I', FT I I' → PCb tp n w I' (ts2 tp n s (l16 s.nl) k b) (k + 1) → Q (some (.int (tf (ts2 tp n s (l16 s.nl) k b).1))) h I' L) : (J E mX8_readTest (d + 6) Q 0 0 28 [some (.ref (eB E + 47)), some (.int (tf b)), none, none] [] h I L) := by
  have b1 := nxt_le (tp := tp) hp
  have b2 := nxt_le (tp := tp) b1
  have no : ∀ {I' : mI} {s' : PS}, FT I I' → PCs tp n w I' s' k → ts2 tp n s (l16 s.nl) k b = (false, s') → CT E mX8_refuse (d + 5) 0 0 [.ref (eB E + 47)] h I' L (qi h L fun r I2 => (bz r ∧ Q (some (.int r)) h I2 L)) := by
    intro I' s' f' r' e
    rw [e] at hQ
    exact c_refuse (tp := tp) (n := n) (s := s') hs r'.1.2.1 (fun I2 f2 r2 => qi_i ⟨Or.inl rfl, hQ I2 (FT.tr f' f2) (PCb.f r2)⟩)
  refine w_X8_readTest_28 hs _ (c_sbj hs n5 r hp (qi_i ?_))
  refine br_c (fun c1 => no FT.rf r (by unfold ts2; rw [if_pos c1])) (fun c1 => ?_)
  obtain ⟨v, v1, v2⟩ := (sbj_c (tp := tp) (n := n) s.p).resolve_left c1
  obtain ⟨z1, z2, z3, z4, z5⟩ := and15 v v1
  obtain ⟨y1, y2, y3⟩ := and15b v v1
  have hx15 : (if b = true then sbj tp n s.p + 16 else sbj tp n s.p) &&& 15 = nI v := by
    rw [v2, z3]
    cases b
    · exact z1
    · exact z2
  have hxn : tf b = if 15 < (if b = true then sbj tp n s.p + 16 else sbj tp n s.p) then 1 else 0 := by
    rw [v2, z3]
    cases b
    · show tf false = if 15 < nI v then 1 else 0
      rw [if_neg y1]; rfl
    · show tf true = if 15 < nI (v + 16) then 1 else 0
      rw [if_pos y2]; rfl
  refine c_adv hs n5 r hp (fun I1 f1 e1 r1 => qv_i ?_)
  have r81 : PC8 I1 (adv tp n s) k := fun e => by rw [e1]; exact r8 e
  by_cases c2 : sbj tp n s.p ≤ 4
  · have v5 : v < 5 := z4.mp (by rw [← v2]; exact c2)
    refine br_f (by rw [v2]; exact fun e => y3.mp e v5) ?_
    have e : ts2 tp n s (l16 s.nl) k b = (true, stT (adv tp n s) (l16 s.nl) k (if b = true then sbj tp n s.p + 16 else sbj tp n s.p) 61 1) := by unfold ts2; rw [if_neg c1, if_pos c2]
    rw [e] at hQ
    have hlt : (if b = true then sbj tp n s.p + 16 else sbj tp n s.p) &&& 15 < 5 := by rw [hx15]; exact z5.mpr v5
    refine c_keepTest (s := adv tp n s) (x := if b = true then sbj tp n s.p + 16 else sbj tp n s.p) (g := 61) (t := 1) hs r1 r81 pi hk (by rw [hx15, v2]) (by rw [if_pos hlt]) (by rw [if_pos hlt]) hxn (fun I2 f2 r2 r82 => qv_i (hQ I2 (FT.tr f1 f2) (PCb.t r2 r82)))
  · have v5 : ¬ v < 5 := fun z => c2 (by rw [v2]; exact z4.mpr z)
    have hnlt : ¬ (if b = true then sbj tp n s.p + 16 else sbj tp n s.p) &&& 15 < 5 := by rw [hx15]; exact fun z => v5 (z5.mp z)
    refine br_t (by rw [v2]; exact y3.mpr v5) ?_
    have t1 := r1.1
    have p94 : sgT tp n (adv tp n s).p = true → (J E mX8_readTest (d + 6) Q 0 0 94 [some (.ref (eB E + 47)), some (.int (tf b)), some (.int (sbj tp n s.p)), none] [] h I1 L) := by
      intro hg
      have hg3 : knd tp n (adv tp n s).p = 3 := by unfold sgT at hg; simp at hg; exact hg.1
      have pl := kn_3 hg3
      refine w_X8_readTest_94 hs _ _ ?_
      rw [t1.2.1, nI_clamp (show plc tp n (adv tp n s).p < 2 ^ 31 by omega), r1.2.2.2.2.2 _ pl]
      refine ⟨vp_in_nI (by omega) (by decide), ?_⟩
      rintro y2 rfl
      refine c_adv hs n5 r1 b1 (fun I2 f2 e2 r2 => qv_i ?_)
      have t2 := r2.1
      rw [t2.1]
      refine br_c (fun c5 => ?_) (fun c5 => no (FT.tr f1 f2) r2 (by unfold ts2; rw [if_neg c1, if_neg c2, if_neg (fun z => z hg), if_pos c5]))
      rw [t2.2.2.2 c5]
      have e : ts2 tp n s (l16 s.nl) k b = (true, stT (adv tp n (adv tp n (adv tp n s))) (l16 s.nl) k (if b = true then sbj tp n s.p + 16 else sbj tp n s.p) (tp (plc tp n (adv tp n s).p)) (wor tp n (adv tp n (adv tp n s)).p)) := by unfold ts2; rw [if_neg c1, if_neg c2, if_neg (fun z => z hg), if_neg (fun z => z c5)]
      rw [e] at hQ
      have r82 : PC8 I2 (adv tp n (adv tp n s)) k := fun e => by rw [e2]; exact r81 e
      refine c_keepTest (s := adv tp n (adv tp n s)) (x := if b = true then sbj tp n s.p + 16 else sbj tp n s.p) (g := tp (plc tp n (adv tp n s).p)) (t := wor tp n (adv tp n (adv tp n s)).p) hs r2 r82 pi hk (by rw [hx15, v2]) (by rw [if_neg hnlt]) (by rw [if_neg hnlt]) hxn (fun I3 f3 r3 r83 => qv_i ?_)
      refine c_adv hs n5 r3 (by rw [stT_p]; exact b2) (fun I4 f4 e4 r4 => qv_i ?_)
      have es : adv tp n (stT (adv tp n (adv tp n s)) (l16 s.nl) k (if b = true then sbj tp n s.p + 16 else sbj tp n s.p) (tp (plc tp n (adv tp n s).p)) (wor tp n (adv tp n (adv tp n s)).p)) = stT (adv tp n (adv tp n (adv tp n s))) (l16 s.nl) k (if b = true then sbj tp n s.p + 16 else sbj tp n s.p) (tp (plc tp n (adv tp n s).p)) (wor tp n (adv tp n (adv tp n s)).p) := by
        unfold stT
        split <;> rfl
      have r4 : PCs tp n w I4 (adv tp n (stT (adv tp n (adv tp n s)) (l16 s.nl) k (if b = true then sbj tp n s.p + 16 else sbj tp n s.p) (tp (plc tp n (adv tp n s).p)) (wor tp n (adv tp n (adv tp n s)).p))) (k + 1) := r4
      rw [es] at r4
      refine hQ I4 (FT.tr f1 (FT.tr f2 (FT.tr f3 f4))) (PCb.t r4 (fun e => ?_))
      rw [e4]
      rw [stT_lf.1] at e
      exact r83 (by rw [stT_lf.1]; exact e)
    rw [t1.1, t1.2.1]
    refine ⟨fun e => vp_in_nI (by have := kn_3 e; omega) (by decide), ?_⟩
    by_cases c3 : knd tp n (adv tp n s).p = 3
    · have pl := kn_3 c3
      rw [nI_clamp (show plc tp n (adv tp n s).p < 2 ^ 31 by omega), r1.2.2.2.2.2 _ pl]
      have isg : ∀ c : Int32, tp (plc tp n (adv tp n s).p) = c → (c = 60 ∨ c = 62 ∨ c = 61) → sgT tp n (adv tp n s).p = true := fun c h2 h3 => by
        unfold sgT
        rw [c3, h2]
        rcases h3 with rfl | rfl | rfl <;> rfl
      refine br_c (fun c4 => p94 (isg 60 c4.2 (Or.inl rfl))) (fun c4 => br_c (fun c5 => p94 (isg 62 c5.2 (Or.inr (Or.inl rfl)))) (fun c5 => br_c (fun c6 => p94 (isg 61 c6.2 (Or.inr (Or.inr rfl)))) (fun c6 => ?_)))
      refine no f1 r1 ?_
      have hg : ¬ sgT tp n (adv tp n s).p = true := by
        unfold sgT
        have d4 : ¬ tp (plc tp n (adv tp n s).p) = 60 := fun e => c4 ⟨c3, e⟩
        have d5 : ¬ tp (plc tp n (adv tp n s).p) = 62 := fun e => c5 ⟨c3, e⟩
        have d6 : ¬ tp (plc tp n (adv tp n s).p) = 61 := fun e => c6 ⟨c3, e⟩
        simp [d4, d5, d6]
      unfold ts2; rw [if_neg c1, if_neg c2, if_pos hg]
    · have hg : ¬ sgT tp n (adv tp n s).p = true := by unfold sgT; simp [c3]
      refine br_f (fun e => c3 e.1) (br_f (fun e => c3 e.1) (br_f (fun e => c3 e.1) (no f1 r1 ?_)))
      unfold ts2; rw [if_neg c1, if_neg c2, if_pos hg]
theorem c_test (hs : SL h) (n5 : n ≤ 500) (r : PCs tp n w I s k) (r8 : PC8 I s k) (pi : PIf w s k) (hp : s.p ≤ n) (hQ : ∀ I', FT I I' → PCb tp n w I' (tsS tp n s (l16 s.nl) k) (k + 1) → Q (some (.int (tf (tsS tp n s (l16 s.nl) k).1))) h I' L) : (CT E mX8_readTest (d + 6) 0 0 [.ref (eB E + 47)] h I L Q) := by
  have e0 : (ts0 tp n s k).p = s.p := ts0_p
  have en : (ts0 tp n s k).nl = s.nl := ts0_nl
  have pi0 := ts0_PI (tp := tp) (n := n) pi
  have hk : (ts0 tp n s k).lf = 0 → k < 4 := fun e => by
    obtain ⟨g1, g2⟩ := ts0_lf e
    have := (pi g1).2.2.1
    omega
  have p13 : ∀ {I' : mI}, FT I I' → PCs tp n w I' (ts0 tp n s k) k → PC8 I' (ts0 tp n s k) k → (J E mX8_readTest (d + 6) Q 0 0 13 [some (.ref (eB E + 47)), none, none, none] [] h I' L) := by
    intro I' f' r' r8'
    unfold tsS at hQ
    refine w_X8_readTest_13 hs (c_isWord hs n5 (by decide) (by rw [e0]; exact hp) r'.2.2.2.2.2 r'.1 (qi_i ⟨fun c => ?_, fun c => ?_⟩))
    · rw [tf_z] at c
      have e1 : ts1 tp n (ts0 tp n s k) = ts0 tp n s k := by unfold ts1; rw [if_neg c]
      rw [e1] at hQ
      have z := c_test2 (E := E) (d := d) (L := L) (Q := Q) (b := wdB tp n (ts0 tp n s k).p 1) hs n5 r' r8' pi0 hk (by rw [e0]; exact hp)
      rw [en] at z
      exact z (fun I3 f3 r3 => hQ I3 (FT.tr f' f3) r3)
    · rw [tf_z, Classical.not_not] at c
      have e1 : ts1 tp n (ts0 tp n s k) = adv tp n (ts0 tp n s k) := by unfold ts1; rw [if_pos c]
      rw [e1] at hQ
      refine c_adv hs n5 r' (by rw [e0]; exact hp) (fun I2 f2 e2 r2 => qv_i ?_)
      have z := c_test2 (E := E) (d := d) (L := L) (Q := Q) (s := adv tp n (ts0 tp n s k)) (b := wdB tp n (ts0 tp n s k).p 1) hs n5 r2 (fun e => by rw [e2]; exact r8' e) pi0 hk (by rw [adv_p, e0]; exact nxt_le hp)
      rw [show (adv tp n (ts0 tp n s k)).nl = s.nl from en] at z
      exact z (fun I3 f3 r3 => hQ I3 (FT.tr f' (FT.tr f2 f3)) r3)
  have q3 : PCs tp n w I s k → (∀ I', FT I I' → I' 47 8 = I 47 8 → PCs tp n w I' (ts0 tp n s k) k → (J E mX8_readTest (d + 6) Q 0 0 13 [some (.ref (eB E + 47)), none, none, none] [] h I' L)) := fun _ I' f' e' r' => p13 f' r' (fun e => by rw [e']; exact r8 (ts0_lf e).1)
  refine w_X8_readTest hs ?_
  by_cases c : s.lf = 0
  · have h8 := r8 c
    have k4 := (pi c).2.2.1
    rw [h8]
    by_cases c4 : k = 4
    · refine br_f (show ¬ nI k < 4 by rw [c4]; decide) ?_
      refine c_note hs (by decide) r (fun I' f' e' r' => qv_i (q3 r I' f' e' ?_))
      unfold ts0; rw [if_pos c4]; exact r'
    · refine br_t (show nI k < 4 from nI_lt (show k < 4 by omega) (by decide)) (q3 r I FT.rf rfl ?_)
      unfold ts0; rw [if_neg c4]; exact r
  · have es : ts0 tp n s k = s := by
      unfold ts0
      split
      · unfold ltr; rw [if_neg c]
      · rfl
    refine ⟨fun _ => q3 r I FT.rf rfl (by rw [es]; exact r), fun _ => ?_⟩
    refine c_note hs (f := 3) (by decide) r (fun I' f' e' r' => qv_i (q3 r I' f' e' ?_))
    rw [es]
    have el : ltr tp n s 3 = s := by unfold ltr; rw [if_neg c]
    rw [el] at r'; exact r'
end PD
