/-! the reference's stable pairing -/
section SM
variable {E : Envt} {d : Nat} {Q : Pst} {h : mS} {I V : mI} {L : mL}
def RM (I V : mI) (s : StT) : Prop := (∀ i, i < pkC V 0 → I 139 i = s.1 i) ∧ ∀ j, j < pkC V 1 → ∃ b, b < 256 ∧ I 140 j = nI b ∧ ∀ i, i < 8 → b.testBit i = s.2 i j
/-- what the reference's asking changes -/
def SFr (I I' : mI) : Prop := ∀ a, a ≠ 83 → (a < 123 ∨ 126 < a) → a ≠ 133 → a ≠ 139 → a ≠ 140 → I' a = I a
theorem m_isTaken (hs : SL h) (hG : GM I V) {s : StT} (hr : ∀ i, i < pkC V 0 → I 139 i = s.1 i) {j : Nat} (hQ : Q (some (.int (cif (∃ i, i < pkC V 0 ∧ s.1 i = nI j) 1 0))) h I L) : (CT E mX12_isTaken d 0 0 [.ref (eB E + 83), .int (nI j)] h I L Q) := by
  have p0 := pk8 V 0
  refine w_X12_isTaken hs _ ?_
  have K : ∀ i, i ≤ pkC V 0 → (∀ k, k < i → ¬ s.1 k = nI j) → (J E mX12_isTaken d Q 0 0 2 [some (.ref (eB E + 83)), some (.int (nI j)), some (.int (nI i))] [] h I L) := by
    refine dn (pkC V 0) ?_ ?_
    · intro hno
      rw [cif_f (by rintro ⟨i, h1, h2⟩; exact hno i h1 h2)] at hQ
      exact w_X12_isTaken_2 hs _ _ (br_t (by rw [hG.1]; exact nI_le (Nat.le_refl _) (by omega)) hQ)
    · intro i hi ih hno
      refine w_X12_isTaken_2 hs _ _ (br_f (by rw [hG.1]; exact nI_ge hi (by omega)) ⟨vp_in_nI (by omega) (by decide), ?_⟩)
      rw [nI_clamp (by omega), hr i hi, nI_1]
      refine br_c (fun c => ?_) (fun c => ih (lt_s hno c))
      rw [cif_t ⟨i, hi, c⟩] at hQ
      exact hQ
  exact K 0 (by omega) (fun k hk => absurd hk (by omega))
theorem m_nextFor (hs : SL h) (w : Wf V) (hV : MV I V) (hG : GM I V) {s : StT} (hr : RM I V s) {j : Nat} (hj : j < pkC V 1) (hQ : ∀ I', LFr I I' → Q (some (.int (stN V s.2 j (pkC V 0)))) h I' L) : (CT E mX12_nextFor (d + 5) 0 0 [.ref (eB E + 83), .int (nI j)] h I L Q) := by
  have p0 := pk8 V 0
  have p1 := pk8 V 1
  obtain ⟨b, hb, eb, hbit⟩ := hr.2 j hj
  obtain ⟨g1, -, -⟩ := pk_ok hj
  refine w_X12_nextFor hs _ ?_
  have K : ∀ i, i ≤ pkC V 0 → ∀ (mo : Int32) (I1 : mI), LFr I I1 → (¬ stN V s.2 j i = (-1) → mo = lgA V (stN V s.2 j i).toNatClampNeg j) → (J E mX12_nextFor (d + 5) Q 0 0 7 [some (.ref (eB E + 83)), some (.int (nI j)), some (.int (stN V s.2 j i)), some (.int mo), some (.int (nI i)), none] [] h I1 L) := by
    have g' : ∀ I1, LFr I I1 → GM I1 V := fun I1 l => hG.cg (fun a h1 h2 => l a (by omega) (by omega) (by omega))
    refine dn (pkC V 0) ?_ ?_
    · intro mo I1 l1 _
      exact w_X12_nextFor_7 hs _ _ _ _ (br_t (by rw [(g' I1 l1).1]; exact nI_le (Nat.le_refl _) (by omega)) (hQ I1 l1))
    · intro i hi ih mo I1 l1 hmo
      obtain ⟨b1, -, -⟩ := pk_ok hi
      have ei : 8 * nI i + nI j = nI (8 * i + j) := by rw [N8, pk_mul, nI_add]
      have gm := g' I1 l1
      refine w_X12_nextFor_7 hs _ _ _ _ (br_f (by rw [gm.1]; exact nI_ge hi (by omega)) ?_)
      rw [ei, nI_clamp (show 8 * i + j < 2 ^ 31 by omega), gm.2.2.2.2 i j hi hj, nI_clamp (show i < 2 ^ 31 by omega), nI_clamp (show j < 2 ^ 31 by omega), l1 140 (by decide) (by decide) (by decide), eb, gm.2.2.1 i hi, gm.2.2.2.1 j hj, nI_1]
      rw [stN] at ih
      have hV1 : MV I1 V := hV.fr l1.fr
      refine ⟨vp_in_nI (by omega) (by decide), ?_⟩
      by_cases c1 : mpA V i j
      · rw [cif_t c1]
        obtain ⟨e1, e2⟩ := gv_ok w hi hj
        refine br_f (by rw [e1]; exact m1_nI (by omega)) ⟨vp_in_nI (by omega) (by decide), ?_⟩
        have hbi := bitf (t := b) (j := i) (by omega) (by omega)
        rw [hbit i (by omega)] at hbi
        refine br_c (fun c2 => ⟨vp_in_nI (by omega) (by decide), ?_⟩) (fun c2 => ?_)
        · have c2 := hbi.mp c2
          refine m_likingOf hs w hV1 g1 b1 (fun I2 l2 => qi_i ?_)
          have er : lkA V (pkI V 1 j) (pkI V 0 i) = lgA V i j := rfl
          rw [er]
          by_cases e : stN V s.2 j i = (-1)
          · rw [if_pos e, if_pos e]
            rw [cif_t ⟨c1, c2, Or.inl e⟩] at ih
            exact ih _ I2 (l1.tr l2) (fun _ => by rw [nI_clamp (by omega)])
          · rw [if_neg e, if_neg e, hmo e]
            by_cases c3 : lgA V i j ≤ lgA V (stN V s.2 j i).toNatClampNeg j
            · rw [if_pos c3, if_pos c3]
              rw [cif_f (fun q => by rcases q.2.2 with q | q; exact e q; exact q c3)] at ih
              exact ih _ I2 (l1.tr l2) (fun _ => rfl)
            · rw [if_neg c3, if_neg c3]
              rw [cif_t ⟨c1, c2, Or.inr c3⟩] at ih
              exact ih _ I2 (l1.tr l2) (fun _ => by rw [nI_clamp (by omega)])
        · rw [cif_f (fun q => c2 (hbi.mpr q.2.1))] at ih
          exact ih mo I1 l1 hmo
      · rw [cif_f c1]
        rw [cif_f (fun q => c1 q.1)] at ih
        exact br_t rfl (ih mo I1 l1 hmo)
  exact K 0 (by omega) 0 I LFr.rf (fun e => absurd rfl e)
theorem m_rather (hs : SL h) (w : Wf V) (hV : MV I V) (hG : GM I V) {s : StT} (hok : stOK V s) (hr : ∀ i, i < pkC V 0 → I 139 i = s.1 i) {i j : Nat} (hi : i < pkC V 0) (hj : j < pkC V 1) (hQ : ∀ I', LFr I I' → Q (some (.int (cif (stR V s.1 i j) 1 0))) h I' L) : (CT E mX12_rather (d + 5) 0 0 [.ref (eB E + 83), .int (nI i), .int (nI j)] h I L Q) := by
  have p0 := pk8 V 0
  have p1 := pk8 V 1
  obtain ⟨b1, -, -⟩ := pk_ok hi
  obtain ⟨g1, -, -⟩ := pk_ok hj
  refine w_X12_rather hs _ _ ⟨vp_in_nI (by omega) (by decide), ?_⟩
  rw [nI_clamp (show i < 2 ^ 31 by omega), nI_clamp (show j < 2 ^ 31 by omega), hr i hi, hG.2.2.1 i hi]
  rcases hok.1 i hi with e | ⟨k, hk, e⟩
  · refine br_t e ?_
    have := hQ I LFr.rf
    rw [cif_t (show stR V s.1 i j from Or.inl e)] at this
    exact this
  · have hne : ¬ s.1 i = (-1) := by rw [e]; exact m1_nI (by omega)
    have ec : (s.1 i).toNatClampNeg = k := by rw [e, nI_clamp (by omega)]
    obtain ⟨gk, -, -⟩ := pk_ok hk
    refine br_f hne ⟨by rw [e]; exact vp_in_nI (by omega) (by decide), ?_⟩
    rw [ec, hG.2.2.2.1 k hk]
    refine m_likingOf hs w hV b1 gk (fun I1 l1 => qi_i ⟨vp_in_nI (by omega) (by decide), ?_⟩)
    have gm : GM I1 V := hG.cg (fun a h1 h2 => l1 a (by omega) (by omega) (by omega))
    rw [gm.2.2.1 i hi, gm.2.2.2.1 j hj]
    refine m_likingOf hs w (hV.fr l1.fr) b1 g1 (fun I2 l2 => qi_i ?_)
    rw [l2 139 (by decide) (by decide) (by decide), l1 139 (by decide) (by decide) (by decide), hr i hi]
    have fin := hQ I2 (l1.tr l2)
    have iffR : stR V s.1 i j ↔ (lkA V (pkI V 0 i) (pkI V 1 k) < lkA V (pkI V 0 i) (pkI V 1 j) ∨ (lkA V (pkI V 0 i) (pkI V 1 j) = lkA V (pkI V 0 i) (pkI V 1 k) ∧ ¬ s.1 i ≤ nI j)) := by
      unfold stR lbA
      rw [ec]
      exact ⟨fun q => q.resolve_left hne, fun q => Or.inr q⟩
    by_cases c : stR V s.1 i j
    · rw [bI_t (iffR.mp c)]; rw [cif_t c] at fin; exact fin
    · rw [bI_f (fun q => c (iffR.mpr q))]; rw [cif_f c] at fin; exact fin
theorem m_stable (hs : SL h) (w : Wf V) (hV : MV I V) {x : Int32} (hQ : ∀ I', FrM I I' → Q (some (.int (stbA V x))) h I' L) : (CT E mX12_stable (d + 6) 0 0 [.ref (eB E + 83), .int x] h I L Q) := by
  have n20 := w.P.n20
  have p0 := pk8 V 0
  have p1 := pk8 V 1
  have hr : (¬ x < 0 ∧ ¬ uI I 83 0 0 95 0 - 1 < x) ↔ inN x (cP V) := by rw [uI_ne (by decide), hV 95 (by decide) (by decide), w.P.n]; exact rngM (by omega)
  have hV0 : MV (uI I 83 0 0) V := hV.fr FrM.u
  refine w_X12_stable hs _ (br_c (fun c => ?_) (fun c => ?_))
  · refine m_findFree hs w hV0 (fun I1 f1 g1 => qv_i ?_)
    have hV1 : MV I1 V := fun a h1 h2 => by rw [f1 a (by omega) (by omega) (by omega)]; exact hV0 a h1 h2
    have fin : ∀ I2, SFr I1 I2 → (∀ i, i < pkC V 0 → I2 139 i = stF V i) → (CT E mX12_withWhom (d + 5) 0 0 [.ref (eB E + 83), .int x] h I2 L (qi h L fun r3 I2 => Q (some (.int r3)) h I2 L)) := fun I2 s2 t2 => by
      have fin := hQ I2 (fun a ha => by rw [s2 a (by omega) (by omega) (by omega) (by omega) (by omega), f1 a (by omega) (by omega) (by omega), uI_ne (by omega)])
      unfold stbA at fin
      rw [cif_t (hr.mp c)] at fin
      exact m_withWhom hs w (g1.cg (fun a h1 h2 => s2 a (by omega) (by omega) (by omega) (by omega) (by omega))) t2 (st_tk V) (qi_i fin)
    have K49 : ∀ n k, 64 ≤ n + stC (stI V k) → k ≤ stC (stI V k) → ∀ I2, SFr I1 I2 → RM I2 V (stI V k) → (J E mX12_stable (d + 6) Q 0 0 49 [some (.ref (eB E + 83)), some (.int x), some (.int 1), none, none] [] h I2 L) := by
      have pass : ∀ k, (∀ I2, SFr I1 I2 → RM I2 V (stI V (k + 1)) → ∀ r : Int32, ((r = 0 ∧ stQ V (stI V k) (pkC V 1)) ∨ (r = 1 ∧ ¬ stQ V (stI V k) (pkC V 1))) → (J E mX12_stable (d + 6) Q 0 0 49 [some (.ref (eB E + 83)), some (.int x), some (.int r), none, none] [] h I2 L)) → ∀ I2, SFr I1 I2 → RM I2 V (stI V k) → (J E mX12_stable (d + 6) Q 0 0 49 [some (.ref (eB E + 83)), some (.int x), some (.int 1), none, none] [] h I2 L) := by
        intro k hK I2 s2 r2
        refine w_X12_stable_49 hs _ _ (br_f (by decide) ?_)
        have K57 : ∀ j, j ≤ pkC V 1 → ∀ (r : Int32) (I2 : mI), SFr I1 I2 → RM I2 V (stP V (stI V k) j) → ((r = 0 ∧ stQ V (stI V k) j) ∨ (r = 1 ∧ ¬ stQ V (stI V k) j)) → (J E mX12_stable (d + 6) Q 0 0 57 [some (.ref (eB E + 83)), some (.int x), some (.int r), some (.int (nI j)), none] [] h I2 L) := by
          refine dn (pkC V 1) ?_ ?_
          · intro r I2 s2 r2 hq
            have gm : GM I2 V := g1.cg (fun a h1 h2 => s2 a (by omega) (by omega) (by omega) (by omega) (by omega))
            exact w_X12_stable_57 hs _ _ _ (br_t (by rw [gm.2.1]; exact nI_le (Nat.le_refl _) (by omega)) (hK I2 s2 r2 r hq))
          · intro j hj ih r I2 s2 r2 hq
            have gm : GM I2 V := g1.cg (fun a h1 h2 => s2 a (by omega) (by omega) (by omega) (by omega) (by omega))
            have hV2 : MV I2 V := fun a h1 h2 => by rw [s2 a (by omega) (by omega) (by omega) (by omega) (by omega)]; exact hV1 a h1 h2
            have hok' := stP_ok (stI_ok V k) j (by omega)
            refine w_X12_stable_57 hs _ _ _ (br_f (by rw [gm.2.1]; exact nI_ge hj (by omega)) ?_)
            refine m_isTaken hs gm r2.1 (qi_i ?_)
            rw [nI_1]
            have skip : ¬ stK V (stP V (stI V k) j) j → ∀ I3, LFr I2 I3 → (J E mX12_stable (d + 6) Q 0 0 57 [some (.ref (eB E + 83)), some (.int x), some (.int r), some (.int (nI (j + 1))), none] [] h I3 L) := fun hn I3 l3 => by
              refine ih r I3 (fun a h1 h2 h3 h4 h5 => by rw [l3 a h1 h2 h3]; exact s2 a h1 h2 h3 h4 h5) ?_ ?_
              · rw [stP, stS, cif_f hn]
                unfold RM
                rw [l3 139 (by decide) (by decide) (by decide), l3 140 (by decide) (by decide) (by decide)]
                exact r2
              · rcases hq with ⟨e, hq⟩ | ⟨e, hq⟩
                · refine Or.inl ⟨e, fun q hk => ?_⟩
                  by_cases ek : q = j
                  · rw [ek]; exact hn
                  · exact hq q (by omega)
                · exact Or.inr ⟨e, fun hh => hq fun q hk => hh q (by omega)⟩
            by_cases ck : ∃ i, i < pkC V 0 ∧ (stP V (stI V k) j).1 i = nI j
            · rw [cif_t ck]
              exact br_f (by decide) (skip (fun e => e.1 ck) I2 LFr.rf)
            · rw [cif_f ck]
              refine br_t rfl ?_
              refine m_nextFor hs w hV2 gm r2 hj (fun I3 l3 => qi_i ?_)
              by_cases cn : stN V (stP V (stI V k) j).2 j (pkC V 0) = (-1)
              · exact br_t cn (skip (fun e => e.2 cn) I3 l3)
              · have hk : stK V (stP V (stI V k) j) j := ⟨ck, cn⟩
                obtain ⟨w1, w2, w3, w4⟩ := stW_ok hk
                refine br_f cn ⟨vp_in_nI (by omega) (by decide), ?_⟩
                obtain ⟨b, hb, eb, hbit⟩ := r2.2 j hj
                rw [w2, nI_clamp (show j < 2 ^ 31 by omega), l3 140 (by decide) (by decide) (by decide), eb, one_shl _ (by omega), fa_or]
                have gm3 : GM (uI I3 140 j (nI (b ||| 2 ^ stW V (stP V (stI V k) j) j))) V := gm.cg (fun a h1 h2 => by rw [uI_ne (by omega)]; exact l3 a (by omega) (by omega) (by omega))
                have hV3 : MV (uI I3 140 j (nI (b ||| 2 ^ stW V (stP V (stI V k) j) j))) V := fun a h1 h2 => by rw [uI_ne (by omega), l3 a (by omega) (by omega) (by omega)]; exact hV2 a h1 h2
                refine m_rather hs w hV3 gm3 hok' (fun i hi => by rw [uI_ne (by decide), l3 139 (by decide) (by decide) (by decide)]; exact r2.1 i hi) w1 hj (fun I4 l4 => qi_i ?_)
                rw [nI_clamp (show stW V (stP V (stI V k) j) j < 2 ^ 31 by omega), l4 139 (by decide) (by decide) (by decide), uI_ne (show (139 : Nat) ≠ 140 by decide), l3 139 (by decide) (by decide) (by decide), r2.1 _ w1]
                refine ⟨fun _ => vp_in_nI (by omega) (by decide), vp_in_nI (by omega) (by decide), ?_⟩
                refine ih 1 _ (fun a h1 h2 h3 h4 h5 => by rw [uI_ne h4, l4 a h1 h2 h3, uI_ne h5, l3 a h1 h2 h3]; exact s2 a h1 h2 h3 h4 h5) ⟨fun i hi => ?_, fun j' hj' => ?_⟩ (Or.inr ⟨rfl, fun hh => hh j (by omega) hk⟩)
                · rw [stP, stS, cif_t hk]
                  show _ = if i = stW V (stP V (stI V k) j) j then cif (stR V (stP V (stI V k) j).1 i j) (nI j) ((stP V (stI V k) j).1 i) else (stP V (stI V k) j).1 i
                  by_cases e : i = stW V (stP V (stI V k) j) j
                  · rw [e, uI_eq, if_pos rfl]
                    by_cases cr : stR V (stP V (stI V k) j).1 (stW V (stP V (stI V k) j) j) j
                    · rw [cif_t cr, cif_t cr, if_neg (show ¬ (1 : Int32) = 0 by decide)]
                    · rw [cif_f cr, cif_f cr, if_pos rfl]
                  · rw [uI_nj e, if_neg e, l4 139 (by decide) (by decide) (by decide), uI_ne (by decide), l3 139 (by decide) (by decide) (by decide)]; exact r2.1 i hi
                · rw [stP, stS, cif_t hk, uI_ne (by decide), l4 140 (by decide) (by decide) (by decide)]
                  by_cases e : j' = j
                  · subst e
                    refine ⟨b ||| 2 ^ stW V (stP V (stI V k) j') j', ?_, by rw [uI_eq], fun i hi => ?_⟩
                    · exact Nat.or_lt_two_pow (n := 8) hb (Nat.pow_lt_pow_right (by omega) (by omega))
                    · rw [fb_bit_set, hbit i hi]
                      show _ = if i = stW V (stP V (stI V k) j') j' ∧ j' = j' then true else (stP V (stI V k) j').2 i j'
                      by_cases ei : i = stW V (stP V (stI V k) j') j'
                      · rw [if_pos ⟨ei, rfl⟩]; simp [ei]
                      · rw [if_neg (fun q => ei q.1)]; simp [ei]
                  · obtain ⟨b', h1, h2, h3⟩ := r2.2 j' hj'
                    refine ⟨b', h1, by rw [uI_nj e, l3 140 (by decide) (by decide) (by decide)]; exact h2, fun i hi => ?_⟩
                    rw [h3 i hi]
                    show _ = if i = stW V (stP V (stI V k) j) j ∧ j' = j then true else (stP V (stI V k) j).2 i j'
                    rw [if_neg (fun q => e q.2)]
        exact K57 0 (by omega) 0 I2 s2 r2 (Or.inl ⟨rfl, fun j hj => absurd hj (by omega)⟩)
      have quiet : ∀ k, k ≤ 64 → ∀ I2, SFr I1 I2 → RM I2 V (stI V (k + 1)) → stQ V (stI V k) (pkC V 1) → (J E mX12_stable (d + 6) Q 0 0 49 [some (.ref (eB E + 83)), some (.int x), some (.int 0), none, none] [] h I2 L) := fun k hk I2 s2 r2 hq => by
        refine w_X12_stable_49 hs _ _ (br_t rfl (fin I2 s2 (fun i hi => ?_)))
        rw [r2.1 i hi, show stI V (k + 1) = stI V k from stI_fix hq 1, stF_of (by omega) hq]
      intro n
      induction n with
      | zero =>
        intro k hn hk I2 s2 r2
        have h64 := stC_64 (stI V k)
        refine pass k (fun I3 s3 r3 r hq => ?_) I2 s2 r2
        rcases hq with ⟨rfl, hq⟩ | ⟨rfl, hq⟩
        · exact quiet k (by omega) I3 s3 r3 hq
        · have := (stC_P (V := V) (s := stI V k) (pkC V 1) (Nat.le_refl _)).2 hq
          have := stC_64 (stP V (stI V k) (pkC V 1))
          omega
      | succ n ih =>
        intro k hn hk I2 s2 r2
        have h64 := stC_64 (stI V k)
        refine pass k (fun I3 s3 r3 r hq => ?_) I2 s2 r2
        rcases hq with ⟨rfl, hq⟩ | ⟨rfl, hq⟩
        · exact quiet k (by omega) I3 s3 r3 hq
        · have h1 : stC (stI V k) < stC (stI V (k + 1)) := (stC_P (V := V) (s := stI V k) (pkC V 1) (Nat.le_refl _)).2 hq
          exact ih (k + 1) (by omega) (by omega) I3 s3 r3
    have K21 : ∀ k, k ≤ 8 → ∀ f g : Nat → Int32, (∀ i, i < k → f i = (-1)) → (∀ i, i < k → g i = 0) → (J E mX12_stable (d + 6) Q 0 0 21 [some (.ref (eB E + 83)), some (.int x), some (.int (nI k)), none, none] [] h (two I1 139 f 140 g) L) := by
      refine dn 8 ?_ ?_
      · intro f g hf hg
        refine w_X12_stable_21 hs _ _ (br_t (by decide) ?_)
        refine K49 64 0 (by omega) (by omega) _ (fun a h1 h2 h3 h4 h5 => two_n h4 h5) ⟨fun i hi => ?_, fun j hj => ⟨0, by omega, ?_, fun i hi => ?_⟩⟩
        · rw [two_1]; exact hf i (by omega)
        · rw [two_2 (by decide)]; exact hg j (by omega)
        · rw [Nat.zero_testBit]; rfl
      · intro k hk ih f g hf hg
        refine w_X12_stable_21 hs _ _ (br_f (nI_ge hk (by decide)) ⟨vp_in_nI (by omega) (by decide), ?_⟩)
        rw [nI_clamp (by omega), uI_two1, uI_two2 (by decide), nI_1]
        refine ih _ _ (fun i hi => ?_) (fun i hi => ?_)
        · by_cases e : i = k
          · rw [e, upd_same']
          · rw [upd_ne' e]; exact hf i (by omega)
        · by_cases e : i = k
          · rw [e, upd_same']
          · rw [upd_ne' e]; exact hg i (by omega)
    have := K21 0 (by omega) (I1 139) (I1 140) (fun i hi => absurd hi (by omega)) (fun i hi => absurd hi (by omega))
    rw [two_id] at this
    exact this
  · have fin := hQ (uI I 83 0 0) FrM.u
    unfold stbA at fin
    rw [cif_f (fun e => c (hr.mpr e))] at fin
    exact fin
end SM
