/-! the first eight free brides and grooms, and who of them may wed -/
def pkP (V : mI) (k : Nat) (p : Nat) : Prop := V 97 p = nI k ∧ frA V p
noncomputable def pkC (V : mI) (k : Nat) : Nat := min 8 (pct (pkP V k) (cP V))
noncomputable def pkI (V : mI) (k i : Nat) : Nat := lsN (fun p => pkP V k p ∧ pct (pkP V k) p = i) (cP V)
theorem pk_ok {V : mI} {k i : Nat} (hi : i < pkC V k) : pkI V k i < cP V ∧ pkP V k (pkI V k i) ∧ pct (pkP V k) (pkI V k i) = i := by
  have h1 : i < fb_ct (pB (pkP V k)) (cP V) := by unfold pkC pct at hi; omega
  obtain ⟨p, p1, p2, p3⟩ := fb_ct_kth h1
  have hp : pkP V k p := pB_p p2
  obtain ⟨a, ⟨b, c⟩, -⟩ := lsN_ok (p := fun p => pkP V k p ∧ pct (pkP V k) p = i) (n := cP V) ⟨p, p1, hp, p3⟩
  exact ⟨a, b, c⟩
def rowI (V : mI) (k m : Nat) (f : Nat → Int32) : Prop := ∀ p, p < m → pkP V k p → pct (pkP V k) p < 8 → f (pct (pkP V k) p) = nI p
theorem row_end {V : mI} {k : Nat} {f : Nat → Int32} (h : rowI V k (cP V) f) {i : Nat} (hi : i < pkC V k) : f i = nI (pkI V k i) := by
  obtain ⟨a, b, c⟩ := pk_ok hi
  have := h _ a b (by rw [c]; unfold pkC at hi; omega)
  rw [c] at this
  exact this
def mpA (V : mI) (i j : Nat) : Prop := mayA V (pkI V 0 i) (pkI V 1 j)
noncomputable def gfA (V : mI) (i j : Nat) : Int32 := mgA V (pkI V 0 i) (pkI V 1 j)
def fdA (V : mI) (i j : Nat) : Prop := fdB V (hN V (pkI V 0 i)) (hN V (pkI V 1 j)) = true
theorem rdF_gift {V : mI} (w : Wf V) {x : Nat} (hx : x < 67) {f : Nat → Int32} : ∀ l, l ≤ 16 → ∃ s, s ≤ 9999 * l ∧ (rdF V x f l).2.1 = nI s := by
  intro l
  induction l with
  | zero => intro _; exact ⟨0, by omega, rfl⟩
  | succ l ih =>
    intro hl
    obtain ⟨s, h1, h2⟩ := ih (by omega)
    rw [rdF]
    by_cases c : lnH V (16 * x + l) f
    · rw [cif_t c]
      unfold rdU
      dsimp only
      rw [h2]
      split
      · obtain ⟨n, hn, e⟩ := w.T.nu (16 * x + l) (by omega)
        exact ⟨s + n, by omega, by rw [e, nI_add]⟩
      · exact ⟨s, by omega, by simp⟩
    · rw [cif_f c]; exact ⟨s, by omega, h2⟩
theorem rdF_back {V : mI} (w : Wf V) {x : Nat} (hx : x < 67) {f : Nat → Int32} : ∀ l, l ≤ 16 → inN (rdF V x f l).2.2.1 101 := by
  intro l
  induction l with
  | zero => intro _; exact ⟨0, by omega, rfl⟩
  | succ l ih =>
    intro hl
    rw [rdF]
    by_cases c : lnH V (16 * x + l) f
    · rw [cif_t c]
      unfold rdU
      dsimp only
      split
      · rename_i e; exact w.T.nb (16 * x + l) (by omega) e
      · exact ih (by omega)
    · rw [cif_f c]; exact ih (by omega)
theorem rdA_gift {V : mI} (w : Wf V) {x : Nat} (hx : x < 67) {f : Nat → Int32} : ∃ s, s < 159985 ∧ (rdA V x f).2.1 = nI s := by
  obtain ⟨nl, h17, e116⟩ := w.T.li x hx
  unfold rdA
  rw [e116, nI_clamp (by omega)]
  obtain ⟨s, h1, h2⟩ := rdF_gift w hx (f := f) nl (by omega)
  exact ⟨s, by omega, h2⟩
theorem mgA_ok {V : mI} (w : Wf V) {b g : Nat} (hb : b < 20) (hg : g < 20) : inN (mgA V b g) 159985 := by
  have v1 := (vN_ok w hb).1
  have v2 := (vN_ok w hg).1
  unfold mgA rdC
  split
  · obtain ⟨s, h1, h2⟩ := rdA_gift w (x := vN V b) (by omega) (f := faA V b g (kiA V (vN V b) (V 88 0) b g)); exact ⟨s, h1, h2⟩
  · obtain ⟨s, h1, h2⟩ := rdA_gift w (x := vN V g) (by omega) (f := faA V b g (kiA V (vN V g) (V 88 0) b g)); exact ⟨s, h1, h2⟩
theorem mbA_ok {V : mI} (w : Wf V) {b g : Nat} (hb : b < 20) : inN (mbA V b g) 101 := by
  have v1 := (vN_ok w hb).1
  obtain ⟨nl, h17, e116⟩ := w.T.li (vN V b) (by omega)
  unfold mbA rdC rdA
  rw [e116, nI_clamp (by omega)]
  exact rdF_back w (by omega) nl (by omega)
section FR
variable {E : Envt} {d : Nat} {Q : Pst} {h : mS} {I V : mI} {L : mL}
theorem c_pick (q : CQ h I V) {k a2 : Nat} (hk : k < 2) (ha2 : a2 = 66 ∨ a2 = 67) (hQ : ∀ f, rowI V k (cP V) f → Q (some (.int (nI (pkC V k)))) h (sA I a2 f) L) : (CT E mX6_pick (d + 1) 0 0 [.ref (eB E + 65), .int (nI k), .ref (eB E + a2)] h I L Q) := by
  have n20 := q.w.P.n20
  have hl2 : a2 < h.2.2 := by rcases ha2 with rfl | rfl; exact lt66 q.s; exact lt67 q.s
  have hk2 : h.1 a2 = (14, 8) := by rcases ha2 with rfl | rfl; exact kk66 q.s; exact kk67 q.s
  refine w_X6_pick q.s _ hl2 hk2 ?_
  have K : ∀ m, m ≤ cP V → ∀ f, rowI V k m f → (J E mX6_pick (d + 1) Q 0 0 5 [some (.ref (eB E + 65)), some (.int (nI k)), some (.ref (eB E + a2)), some (.int (nI (min 8 (pct (pkP V k) m)))), some (.int (nI m))] [] h (sA I a2 f) L) := by
    refine dn (cP V) ?_ ?_
    · intro f hf
      refine w_X6_pick_5 q.s hl2 hk2 _ _ _ (br_t ?_ (hQ f hf))
      rw [sA_ne (by omega), bP_n q.b, q.w.P.n]; exact nI_le (Nat.le_refl _) (by omega)
    · intro m hm ih f hf
      refine w_X6_pick_5 q.s hl2 hk2 _ _ _ (br_f (by rw [sA_ne (by omega), bP_n q.b, q.w.P.n]; exact nI_ge hm (by omega)) ?_)
      by_cases c8 : 8 ≤ pct (pkP V k) m
      · have e8 : min 8 (pct (pkP V k) m) = 8 := by omega
        rw [e8]
        have ec : pkC V k = 8 := by
          unfold pkC
          have := pct_mono (p := pkP V k) (show m ≤ cP V by omega)
          omega
        have fin := hQ f (fun p hp h1 h2 => by
          by_cases c : p < m
          · exact hf p c h1 h2
          · have := pct_mono (p := pkP V k) (show m ≤ p by omega)
            omega)
        rw [ec] at fin
        exact br_t (by decide) fin
      · have e8 : min 8 (pct (pkP V k) m) = pct (pkP V k) m := by omega
        rw [e8]
        refine br_f (nI_ge (show pct (pkP V k) m < 8 by omega) (by decide)) ⟨vp_in_nI (by omega) (by decide), ?_⟩
        rw [nI_clamp (show m < 2 ^ 31 by omega), sA_ne (show (9 : Nat) ≠ a2 by omega), sA_ne (show (14 : Nat) ≠ a2 by omega), sA_ne (show (12 : Nat) ≠ a2 by omega), sA_ne (show (13 : Nat) ≠ a2 by omega), bP_kin q.b m (by omega), nI_1 m, nI_1 (pct (pkP V k) m), nI_clamp (show pct (pkP V k) m < 2 ^ 31 by omega), uI_sA]
        have hfr := c_free q.b q.w hm
        have skip : ¬ pkP V k m → (J E mX6_pick (d + 1) Q 0 0 5 [some (.ref (eB E + 65)), some (.int (nI k)), some (.ref (eB E + a2)), some (.int (nI (pct (pkP V k) m))), some (.int (nI (m + 1)))] [] h (sA I a2 f) L) := fun hn => by
          have := ih f (fun p hp h1 h2 => by
            by_cases c : p = m
            · subst c; exact absurd h1 hn
            · exact hf p (by omega) h1 h2)
          rw [pct_n hn, e8] at this
          exact this
        refine br_c (fun c1 => ⟨vp_in_nI (by omega) (by decide), br_c (fun c2 => ⟨vp_in_nI (by omega) (by decide), ?_⟩) (fun c2 => skip fun e => c2 (hfr.mpr e.2))⟩) (fun c1 => skip fun e => c1 e.1)
        have hy : pkP V k m := ⟨c1, hfr.mp c2⟩
        have := ih (upd f (pct (pkP V k) m) (nI m)) (fun p hp h1 h2 => by
          by_cases c : p = m
          · subst c; exact upd_same'
          · have hlt : pct (pkP V k) (p + 1) ≤ pct (pkP V k) m := pct_mono (by omega)
            rw [pct_y h1] at hlt
            rw [upd_ne' (by omega)]; exact hf p (by omega) h1 h2)
        rw [pct_y hy, show min 8 (pct (pkP V k) m + 1) = pct (pkP V k) m + 1 by omega] at this
        exact this
  have := K 0 (by omega) (I a2) (fun p hp => absurd hp (by omega))
  rw [sA_id] at this
  exact this
/-- what gather leaves -/
def GA (I V : mI) : Prop := I 65 4 = nI (pkC V 0) ∧ I 65 5 = nI (pkC V 1) ∧ (∀ i, i < pkC V 0 → I 66 i = nI (pkI V 0 i)) ∧ (∀ j, j < pkC V 1 → I 67 j = nI (pkI V 1 j)) ∧
  (∀ i j, i < pkC V 0 → j < pkC V 1 → I 68 (8 * i + j) = cif (mpA V i j) 1 0 ∧ I 69 (8 * i + j) = gfA V i j ∧ I 70 (8 * i + j) = cif (fdA V i j) 1 0 ∧ I 71 (8 * i + j) = (20000000 - gfA V i j) + cif (fdA V i j) 2000000 0)
theorem c_gather (q : CQ h I V) (hQ : ∀ I', (∀ a, a < 56 ∨ 71 < a → I' a = I a) → Kc I' V → GA I' V → Q none h I' L) : (CT E mX6_gather (d + 6) 0 0 [.ref (eB E + 65)] h I L Q) := by
  have n20 := q.w.P.n20
  have p0 : pkC V 0 ≤ 8 := by unfold pkC; omega
  have p1 : pkC V 1 ≤ 8 := by unfold pkC; omega
  refine w_X6_gather q.s ?_
  refine c_pick q (k := 0) (by omega) (Or.inl rfl) (fun f hf => qi_i ?_)
  have q1 : CQ h (uI (sA I 66 f) 65 4 (nI (pkC V 0))) V := q.fk (fun a ha => by rw [uI_ne (by omega), sA_ne (by omega)])
  refine c_pick q1 (k := 1) (by omega) (Or.inr rfl) (fun g hg => qi_i ?_)
  generalize hJ : uI (sA (uI (sA I 66 f) 65 4 (nI (pkC V 0))) 67 g) 65 5 (nI (pkC V 1)) = I0
  have o0 : ∀ a, a < 65 ∨ 67 < a → I0 a = I a := fun a ha => by rw [← hJ, uI_ne (by omega), sA_ne (by omega), uI_ne (by omega), sA_ne (by omega)]
  have e654 : I0 65 4 = nI (pkC V 0) := by rw [← hJ, uI_nj (by decide), sA_ne (by decide), uI_eq]
  have e655 : I0 65 5 = nI (pkC V 1) := by rw [← hJ, uI_eq]
  have e66 : ∀ i, i < pkC V 0 → I0 66 i = nI (pkI V 0 i) := fun i hi => by rw [← hJ, uI_ne (by decide), sA_ne (by decide), uI_ne (by decide), sA_at]; exact row_end hf hi
  have e67 : ∀ i, i < pkC V 1 → I0 67 i = nI (pkI V 1 i) := fun i hi => by rw [← hJ, uI_ne (by decide), sA_at]; exact row_end hg hi
  have TB : ∀ (i j : Nat) (I1 : mI), True := fun _ _ _ => trivial
  have K28 : ∀ i, i ≤ pkC V 0 → ∀ I1, (∀ a, a < 56 ∨ (64 < a ∧ a < 68) ∨ 71 < a → I1 a = I0 a) → Kc I1 V → (∀ i' j, i' < i → j < pkC V 1 → I1 68 (8 * i' + j) = cif (mpA V i' j) 1 0 ∧ I1 69 (8 * i' + j) = gfA V i' j ∧ I1 70 (8 * i' + j) = cif (fdA V i' j) 1 0 ∧ I1 71 (8 * i' + j) = (20000000 - gfA V i' j) + cif (fdA V i' j) 2000000 0) → (J E mX6_gather (d + 6) Q 0 0 28 [some (.ref (eB E + 65)), some (.int (nI i)), none, none] [] h I1 L) := by
    refine dn (pkC V 0) ?_ ?_
    · intro I1 f1 k1 t1
      refine w_X6_gather_28 q.s _ (br_t (by rw [f1 65 (by decide), e654]; exact nI_le (Nat.le_refl _) (by omega)) (hQ I1 (fun a ha => ?_) k1 ⟨?_, ?_, ?_, ?_, t1⟩))
      · rw [f1 a (by omega)]; exact o0 a (by omega)
      · rw [f1 65 (by decide)]; exact e654
      · rw [f1 65 (by decide)]; exact e655
      · rw [f1 66 (by decide)]; exact e66
      · rw [f1 67 (by decide)]; exact e67
    · intro i hi ih I1 f1 k1 t1
      refine w_X6_gather_28 q.s _ (br_f (by rw [f1 65 (by decide), e654]; exact nI_ge hi (by omega)) ?_)
      have K38 : ∀ j, j ≤ pkC V 1 → ∀ I1, (∀ a, a < 56 ∨ (64 < a ∧ a < 68) ∨ 71 < a → I1 a = I0 a) → Kc I1 V → (∀ i' j', (i' < i ∧ j' < pkC V 1) ∨ (i' = i ∧ j' < j) → I1 68 (8 * i' + j') = cif (mpA V i' j') 1 0 ∧ I1 69 (8 * i' + j') = gfA V i' j' ∧ I1 70 (8 * i' + j') = cif (fdA V i' j') 1 0 ∧ I1 71 (8 * i' + j') = (20000000 - gfA V i' j') + cif (fdA V i' j') 2000000 0) → (J E mX6_gather (d + 6) Q 0 0 38 [some (.ref (eB E + 65)), some (.int (nI i)), some (.int (nI j)), none] [] h I1 L) := by
        refine dn (pkC V 1) ?_ ?_
        · intro I1 f1 k1 t1
          refine w_X6_gather_38 q.s _ _ (br_t (by rw [f1 65 (by decide), e655]; exact nI_le (Nat.le_refl _) (by omega)) ?_)
          rw [nI_1]
          exact ih I1 f1 k1 (fun i' j' h1 h2 => t1 i' j' (by omega))
        · intro j hj ihj I1 f1 k1 t1
          obtain ⟨b1, b2, -⟩ := pk_ok hi
          obtain ⟨g1, g2, -⟩ := pk_ok hj
          refine w_X6_gather_38 q.s _ _ (br_f (by rw [f1 65 (by decide), e655]; exact nI_ge hj (by omega)) ⟨vp_in_nI (by omega) (by decide), vp_in_nI (by omega) (by decide), ?_⟩)
          rw [nI_clamp (show i < 2 ^ 31 by omega), nI_clamp (show j < 2 ^ 31 by omega), f1 66 (by decide), f1 67 (by decide), e66 i hi, e67 j hj]
          have q3 : CQ h I1 V := q.fr (fun a ha => by
            by_cases c : a < 56
            · rw [f1 a (by omega)]; exact o0 a (by omega)
            · rw [f1 a (by omega)]; exact o0 a (by omega)) k1
          refine c_letsWed q3 b1 g1 (fun I2 j2 k2 m8 m9 mf => qi_i ?_)
          have ei : nI i * 8 + nI j = nI (8 * i + j) := by rw [N8, pk_mul, nI_add, Nat.mul_comm]
          rw [ei, nI_clamp (show 8 * i + j < 2 ^ 31 by omega), m8, mf 2 (by decide) (by decide), nI_1]
          have ef : bI (faA V (pkI V 0 i) (pkI V 1 j) 0 2 = 1) = cif (fdA V i j) 1 0 := by
            show bI (bI (fdB V (hN V (pkI V 0 i)) (hN V (pkI V 1 j)) = true) = 1) = _
            by_cases c : fdA V i j
            · rw [cif_t c]; exact bI_t (bI_t c)
            · rw [cif_f c]
              have z : bI (fdB V (hN V (pkI V 0 i)) (hN V (pkI V 1 j)) = true) = 0 := bI_f c
              exact bI_f (by rw [z]; decide)
          rw [ef]
          refine ⟨vp_in_nI (by omega) (by decide), ?_, ihj _ (fun a ha => ?_) (k2.cg ?_ ?_) (fun i' j' hij => ?_)⟩
          · by_cases c : mayA V (pkI V 0 i) (pkI V 1 j)
            · rw [cif_t c]; exact Or.inr rfl
            · rw [cif_f c]; exact Or.inl rfl
          · rw [uI_ne (by omega), uI_ne (by omega), uI_ne (by omega), uI_ne (by omega), j2 a (by omega)]; exact f1 a ha
          · simp (disch := decide) only [uI_ne]
          · simp (disch := decide) only [uI_ne]
          · by_cases c : i' = i ∧ j' = j
            · obtain ⟨rfl, rfl⟩ := c
              simp (disch := decide) only [uI_ne, uI_eq]
              refine ⟨rfl, rfl, trivial, ?_⟩
              by_cases c : fdA V i' j'
              · rw [cif_t c, cif_t c, if_neg (show ¬ (1 : Int32) = 0 by decide)]; rfl
              · rw [cif_f c, cif_f c, if_pos rfl]; rfl
            · have hne : 8 * i' + j' ≠ 8 * i + j := by omega
              simp (disch := first | decide | exact hne) only [uI_ne, uI_nj]
              rw [j2 68 (by decide), j2 69 (by decide), j2 70 (by decide), j2 71 (by decide)]
              exact t1 i' j' (by omega)
      exact K38 0 (by omega) I1 f1 k1 (fun i' j' h1 => t1 i' j' (by omega) (by omega))
  refine K28 0 (by omega) I0 (fun _ _ => rfl) (q.k.cg ?_ ?_) (fun i' j' h1 => absurd h1 (by omega))
  · exact o0 57 (by decide)
  · exact o0 58 (by decide)
/-- what findFree leaves -/
def GM (I V : mI) : Prop := I 134 0 = nI (pkC V 0) ∧ I 134 1 = nI (pkC V 1) ∧ (∀ i, i < pkC V 0 → I 135 i = nI (pkI V 0 i)) ∧ (∀ j, j < pkC V 1 → I 136 j = nI (pkI V 1 j)) ∧
  (∀ i j, i < pkC V 0 → j < pkC V 1 → I 137 (8 * i + j) = cif (mpA V i j) (gfA V i j) (-1))
theorem m_findFree (hs : SL h) (w : Wf V) (hV : MV I V) (hQ : ∀ I', (∀ a, a ≠ 83 → (a < 123 ∨ 126 < a) → (a < 133 ∨ 137 < a) → I' a = I a) → GM I' V → Q none h I' L) : (CT E mX12_findFree (d + 5) 0 0 [.ref (eB E + 83)] h I L Q) := by
  have n20 := w.P.n20
  have p0 : pkC V 0 ≤ 8 := by unfold pkC; omega
  have p1 : pkC V 1 ≤ 8 := by unfold pkC; omega
  refine w_X12_findFree hs ?_
  have K113 : ∀ I0 : mI, (∀ a, a < 134 ∨ 136 < a → I0 a = I a) → I0 134 0 = nI (pkC V 0) → I0 134 1 = nI (pkC V 1) → (∀ i, i < pkC V 0 → I0 135 i = nI (pkI V 0 i)) → (∀ i, i < pkC V 1 → I0 136 i = nI (pkI V 1 i)) → (J E mX12_findFree (d + 5) Q 0 0 101 [some (.ref (eB E + 83)), some (.int 0), none] [] h I0 L) := by
    intro I0 o0 e0 e1 e135 e136
    have K : ∀ i, i ≤ pkC V 0 → ∀ I1, (∀ a, a ≠ 83 → (a < 123 ∨ 126 < a) → a ≠ 133 → a ≠ 137 → I1 a = I0 a) → (∀ i' j, i' < i → j < pkC V 1 → I1 137 (8 * i' + j) = cif (mpA V i' j) (gfA V i' j) (-1)) → (J E mX12_findFree (d + 5) Q 0 0 101 [some (.ref (eB E + 83)), some (.int (nI i)), none] [] h I1 L) := by
      refine dn (pkC V 0) ?_ ?_
      · intro I1 f1 t1
        refine w_X12_findFree_101 hs _ (br_t (by rw [f1 134 (by decide) (by decide) (by decide) (by decide), e0]; exact nI_le (Nat.le_refl _) (by omega)) (hQ I1 (fun a h1 h2 h3 => ?_) ⟨?_, ?_, ?_, ?_, t1⟩))
        · rw [f1 a h1 h2 (by omega) (by omega)]; exact o0 a (by omega)
        · rw [f1 134 (by decide) (by decide) (by decide) (by decide)]; exact e0
        · rw [f1 134 (by decide) (by decide) (by decide) (by decide)]; exact e1
        · rw [f1 135 (by decide) (by decide) (by decide) (by decide)]; exact e135
        · rw [f1 136 (by decide) (by decide) (by decide) (by decide)]; exact e136
      · intro i hi ih I1 f1 t1
        refine w_X12_findFree_101 hs _ (br_f (by rw [f1 134 (by decide) (by decide) (by decide) (by decide), e0]; exact nI_ge hi (by omega)) ?_)
        have K2 : ∀ j, j ≤ pkC V 1 → ∀ I1, (∀ a, a ≠ 83 → (a < 123 ∨ 126 < a) → a ≠ 133 → a ≠ 137 → I1 a = I0 a) → (∀ i' j', (i' < i ∧ j' < pkC V 1) ∨ (i' = i ∧ j' < j) → I1 137 (8 * i' + j') = cif (mpA V i' j') (gfA V i' j') (-1)) → (J E mX12_findFree (d + 5) Q 0 0 113 [some (.ref (eB E + 83)), some (.int (nI i)), some (.int (nI j))] [] h I1 L) := by
          refine dn (pkC V 1) ?_ ?_
          · intro I1 f1 t1
            refine w_X12_findFree_113 hs _ _ (br_t (by rw [f1 134 (by decide) (by decide) (by decide) (by decide), e1]; exact nI_le (Nat.le_refl _) (by omega)) ?_)
            rw [nI_1]
            exact ih I1 f1 (fun i' j' h1 h2 => t1 i' j' (by omega))
          · intro j hj ihj I1 f1 t1
            obtain ⟨b1, b2, -⟩ := pk_ok hi
            obtain ⟨g1, g2, -⟩ := pk_ok hj
            refine w_X12_findFree_113 hs _ _ (br_f (by rw [f1 134 (by decide) (by decide) (by decide) (by decide), e1]; exact nI_ge hj (by omega)) ⟨vp_in_nI (by omega) (by decide), vp_in_nI (by omega) (by decide), ?_⟩)
            rw [nI_clamp (show i < 2 ^ 31 by omega), nI_clamp (show j < 2 ^ 31 by omega), f1 135 (by decide) (by decide) (by decide) (by decide), f1 136 (by decide) (by decide) (by decide) (by decide), e135 i hi, e136 j hj]
            have hV1 : MV I1 V := fun a h1 h2 => by rw [f1 a (by omega) (by omega) (by omega) (by omega), o0 a (by omega)]; exact hV a h1 h2
            refine m_mayWed hs w hV1 b1 g1 (fun I2 l2 m2 => qi_i ?_)
            have ei : 8 * nI i + nI j = nI (8 * i + j) := by rw [N8, pk_mul, nI_add]
            rw [ei, nI_clamp (show 8 * i + j < 2 ^ 31 by omega), nI_1]
            refine ⟨vp_in_nI (by omega) (by decide), ihj _ (fun a h1 h2 h3 h4 => ?_) (fun i' j' hij => ?_)⟩
            · rw [uI_ne h4, l2 a h1 h2 h3]; exact f1 a h1 h2 h3 h4
            · by_cases c : i' = i ∧ j' = j
              · obtain ⟨rfl, rfl⟩ := c
                rw [uI_eq]
                by_cases c : mayA V (pkI V 0 i') (pkI V 1 j')
                · rw [cif_t c, cif_t (show mpA V i' j' from c), if_neg (show ¬ (1 : Int32) = 0 by decide), (m2 c).1]; rfl
                · rw [cif_f c, cif_f (show ¬ mpA V i' j' from c), if_pos rfl]
              · rw [uI_nj (by omega), l2 137 (by decide) (by decide) (by decide)]
                exact t1 i' j' (by omega)
        exact K2 0 (by omega) I1 f1 (fun i' j' h1 => t1 i' j' (by omega) (by omega))
    exact K 0 (by omega) I0 (fun _ _ _ _ _ => rfl) (fun i' j' h1 => absurd h1 (by omega))
  have K16 : ∀ m, m ≤ cP V → ∀ I1, (∀ a, a < 134 ∨ 136 < a → I1 a = I a) → I1 134 0 = nI (min 8 (pct (pkP V 0) m)) → I1 134 1 = nI (min 8 (pct (pkP V 1) m)) → rowI V 0 m (I1 135) → rowI V 1 m (I1 136) → (J E mX12_findFree (d + 5) Q 0 0 16 [some (.ref (eB E + 83)), some (.int (nI m)), none] [] h I1 L) := by
    refine dn (cP V) ?_ ?_
    · intro I1 o1 c0 c1 r0 r1
      refine w_X12_findFree_16 hs _ (br_t (by rw [o1 95 (by decide), hV 95 (by decide) (by decide), w.P.n]; exact nI_le (Nat.le_refl _) (by omega)) ?_)
      exact K113 I1 o1 c0 c1 (fun i hi => row_end r0 hi) (fun i hi => row_end r1 hi)
    · intro m hm ih I1 o1 c0 c1 r0 r1
      have hV1 : MV I1 V := fun a h1 h2 => by rw [o1 a (by omega)]; exact hV a h1 h2
      obtain ⟨k2, ek⟩ := kd_ok w (p := m) (by omega)
      refine w_X12_findFree_16 hs _ (br_f (by rw [o1 95 (by decide), hV 95 (by decide) (by decide), w.P.n]; exact nI_ge hm (by omega)) ⟨vp_in_nI (by omega) (by decide), ?_⟩)
      rw [nI_clamp (show m < 2 ^ 31 by omega), hV1 97 (by decide) (by decide), nI_1]
      have other : ∀ k, V 97 m ≠ nI k → pct (pkP V k) (m + 1) = pct (pkP V k) m ∧ ∀ f, rowI V k m f → rowI V k (m + 1) f := fun k hk => ⟨pct_n (fun e => hk e.1), fun f hf p hp h1 h2 => by
        by_cases c : p = m
        · subst c; exact absurd h1.1 hk
        · exact hf p (by omega) h1 h2⟩
      have nofree : ∀ k, ¬ frA V m → pct (pkP V k) (m + 1) = pct (pkP V k) m ∧ ∀ f, rowI V k m f → rowI V k (m + 1) f := fun k hk => ⟨pct_n (fun e => hk e.2), fun f hf p hp h1 h2 => by
        by_cases c : p = m
        · subst c; exact absurd h1.2 hk
        · exact hf p (by omega) h1 h2⟩
      have full : ∀ k, 8 ≤ pct (pkP V k) m → min 8 (pct (pkP V k) (m + 1)) = min 8 (pct (pkP V k) m) ∧ ∀ f, rowI V k m f → rowI V k (m + 1) f := fun k hk => ⟨by have := pct_mono (p := pkP V k) (show m ≤ m + 1 by omega); omega, fun f hf p hp h1 h2 => by
        by_cases c : p = m
        · subst c; omega
        · exact hf p (by omega) h1 h2⟩
      have add : ∀ k f, pkP V k m → pct (pkP V k) m < 8 → rowI V k m f → min 8 (pct (pkP V k) (m + 1)) = min 8 (pct (pkP V k) m) + 1 ∧ rowI V k (m + 1) (upd f (pct (pkP V k) m) (nI m)) := fun k f hy h8 hf => ⟨by rw [pct_y hy]; omega, fun p hp h1 h2 => by
        by_cases c : p = m
        · subst c; exact upd_same'
        · have hlt : pct (pkP V k) (p + 1) ≤ pct (pkP V k) m := pct_mono (by omega)
          rw [pct_y h1] at hlt
          rw [upd_ne' (by omega)]; exact hf p (by omega) h1 h2⟩
      rintro y3 rfl
      rcases w.P.kin m (by omega) with ekd | ekd
      · -- a bride
        have o := other 1 (by rw [ekd]; decide)
        rw [ekd]
        have z0 : (0 : Int32).toNatClampNeg = 0 := by decide
        rw [z0, c0]
        refine ⟨vp_in_nI (n := 0) (by decide) (by decide), ?_⟩
        by_cases c8 : 8 ≤ pct (pkP V 0) m
        · have fl := full 0 c8
          rw [show min 8 (pct (pkP V 0) m) = 8 by omega]
          refine br_t (by decide) (ih I1 o1 ?_ ?_ (fl.2 _ r0) (o.2 _ r1))
          · rw [fl.1]; exact c0
          · rw [o.1]; exact c1
        · rw [show min 8 (pct (pkP V 0) m) = pct (pkP V 0) m by omega] at c0 ⊢
          refine br_f (nI_ge (show pct (pkP V 0) m < 8 by omega) (by decide)) ?_
          refine m_isFree hs w hV1 (by omega) (qi_i ?_)
          rw [c0]
          by_cases cf : frA V m
          · rw [cif_t cf]
            have ad := add 0 (I1 135) ⟨ekd, cf⟩ (by omega) r0
            rw [show min 8 (pct (pkP V 0) m) = pct (pkP V 0) m by omega] at ad
            refine br_f (by decide) (br_t rfl ⟨vp_in_nI (by omega) (by decide), ih _ (fun a ha => ?_) ?_ ?_ ?_ ?_⟩)
            · rw [uI_ne (by omega), uI_ne (by omega)]; exact o1 a ha
            · rw [uI_eq, nI_1, ad.1]
            · rw [uI_nj (by decide), uI_ne (by decide), o.1]; exact c1
            · rw [uI_ne (by decide), nI_clamp (show pct (pkP V 0) m < 2 ^ 31 by omega), uI_s, sA_at]; exact ad.2
            · rw [uI_ne (by decide), uI_ne (by decide)]; exact o.2 _ r1
          · rw [cif_f cf]
            have nf := nofree 0 cf
            refine br_t rfl (ih I1 o1 ?_ ?_ (nf.2 _ r0) (o.2 _ r1))
            · rw [nf.1, show min 8 (pct (pkP V 0) m) = pct (pkP V 0) m by omega]; exact c0
            · rw [o.1]; exact c1
      · -- a groom
        have o := other 0 (by rw [ekd]; decide)
        rw [ekd]
        have z0 : (1 : Int32).toNatClampNeg = 1 := by decide
        rw [z0, c1]
        refine ⟨vp_in_nI (n := 1) (by decide) (by decide), ?_⟩
        by_cases c8 : 8 ≤ pct (pkP V 1) m
        · have fl := full 1 c8
          rw [show min 8 (pct (pkP V 1) m) = 8 by omega]
          refine br_t (by decide) (ih I1 o1 ?_ ?_ (o.2 _ r0) (fl.2 _ r1))
          · rw [o.1]; exact c0
          · rw [fl.1]; exact c1
        · rw [show min 8 (pct (pkP V 1) m) = pct (pkP V 1) m by omega] at c1 ⊢
          refine br_f (nI_ge (show pct (pkP V 1) m < 8 by omega) (by decide)) ?_
          refine m_isFree hs w hV1 (by omega) (qi_i ?_)
          rw [c1]
          by_cases cf : frA V m
          · rw [cif_t cf]
            have ad := add 1 (I1 136) ⟨ekd, cf⟩ (by omega) r1
            rw [show min 8 (pct (pkP V 1) m) = pct (pkP V 1) m by omega] at ad
            refine br_f (by decide) (br_f (by decide) ⟨vp_in_nI (by omega) (by decide), ih _ (fun a ha => ?_) ?_ ?_ ?_ ?_⟩)
            · rw [uI_ne (by omega), uI_ne (by omega)]; exact o1 a ha
            · rw [uI_nj (by decide), uI_ne (by decide), o.1]; exact c0
            · rw [uI_eq, nI_1, ad.1]
            · rw [uI_ne (by decide), uI_ne (by decide)]; exact o.2 _ r0
            · rw [uI_ne (by decide), nI_clamp (show pct (pkP V 1) m < 2 ^ 31 by omega), uI_s, sA_at]; exact ad.2
          · rw [cif_f cf]
            have nf := nofree 1 cf
            refine br_t rfl (ih I1 o1 ?_ ?_ (o.2 _ r0) (nf.2 _ r1))
            · rw [o.1]; exact c0
            · rw [nf.1, show min 8 (pct (pkP V 1) m) = pct (pkP V 1) m by omega]; exact c1
  refine K16 0 (by omega) _ (fun a ha => by rw [uI_ne (by omega), uI_ne (by omega)]) ?_ ?_ (fun p hp => absurd hp (by omega)) (fun p hp => absurd hp (by omega))
  · rw [uI_nj (by decide), uI_eq, pct_0]; rfl
  · rw [uI_eq, pct_0]; rfl
end FR
