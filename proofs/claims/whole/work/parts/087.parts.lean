/-! the k-th of those with p -/
noncomputable def pB (p : Nat → Prop) : Nat → Bool := fun m => @decide (p m) (Classical.propDecidable _)
noncomputable def pct (p : Nat → Prop) (n : Nat) : Nat := fb_ct (pB p) n
theorem pB_t {p : Nat → Prop} {m : Nat} (h : p m) : pB p m = true := @decide_eq_true _ (Classical.propDecidable _) h
theorem pB_f {p : Nat → Prop} {m : Nat} (h : ¬ p m) : pB p m = false := @decide_eq_false _ (Classical.propDecidable _) h
theorem pB_p {p : Nat → Prop} {m : Nat} (h : pB p m = true) : p m := @of_decide_eq_true _ (Classical.propDecidable _) h
theorem pct_y {p : Nat → Prop} {n : Nat} (h : p n) : pct p (n + 1) = pct p n + 1 := by unfold pct; rw [fb_ct_succ, pB_t h]; rfl
theorem pct_n {p : Nat → Prop} {n : Nat} (h : ¬ p n) : pct p (n + 1) = pct p n := by unfold pct; rw [fb_ct_succ, pB_f h]; rfl
theorem pct_le (p : Nat → Prop) (n : Nat) : pct p n ≤ n := fb_ct_le _ n
theorem pct_0 (p : Nat → Prop) : pct p 0 = 0 := rfl
theorem pct_gap {p : Nat → Prop} {a : Nat} : ∀ n, (∀ j, a ≤ j → j < a + n → ¬ p j) → pct p (a + n) = pct p a := by
  intro n
  induction n with
  | zero => intro _; rfl
  | succ n ih => intro h; rw [← Nat.add_assoc, pct_n (h _ (by omega) (by omega)), ih (fun j h1 h2 => h j h1 (by omega))]
theorem pct_mono {p : Nat → Prop} {a b : Nat} (h : a ≤ b) : pct p a ≤ pct p b := fb_ct_mono _ h
def kP (p : Nat → Prop) (k : Int32) (i : Nat) : Prop := p i ∧ nI (pct p i) = k
noncomputable def kth (p : Nat → Prop) (N : Nat) (k : Int32) (f : Nat → Int32) : Int32 := cif (∃ i, i < N ∧ kP p k i) (f (lsN (kP p k) N)) (-1)
theorem kth_y {p : Nat → Prop} {N i : Nat} {k : Int32} {f : Nat → Int32} (hi : i < N) (h : kP p k i) (hn : ∀ j, j < i → ¬ kP p k j) : kth p N k f = f i := by
  unfold kth
  rw [cif_t ⟨i, hi, h⟩, lsN_eq hi h hn]
theorem kth_n {p : Nat → Prop} {N : Nat} {k : Int32} {f : Nat → Int32} (hn : ∀ j, j < N → ¬ kP p k j) : kth p N k f = (-1) := cif_f (by rintro ⟨i, h1, h2⟩; exact hn i h1 h2)
def ptA (V : mI) (b g : Nat) : Prop := ¬ opA V b = (-1) ∧ ¬ opA V g = (-1) ∧ ¬ opA V b = opA V g ∧ mayA V b g ∧ ¬ lkA V b g ≤ lkA V b (grN V (opA V b).toNatClampNeg) ∧ ¬ lkA V g b ≤ lkA V g (brN V (opA V g).toNatClampNeg)
def ptP (V : mI) (i : Nat) : Prop := i / 20 < cP V ∧ i % 20 < cP V ∧ V 97 (i / 20) = 0 ∧ V 97 (i % 20) = 1 ∧ ptA V (i / 20) (i % 20)
noncomputable def ltK (V : mI) (k : Int32) : Int32 := kth (ltA V) (cM V) k nI
noncomputable def ptK (V : mI) (k : Int32) : Int32 := kth (ptP V) 400 k (fun i => nI (100 * (i / 20) + i % 20))
section PT
variable {E : Envt} {d : Nat} {Q : Pst} {h : mS} {I V : mI} {L : mL}
theorem c_wouldPart (q : CQ h I V) {b g : Nat} (hb : b < cP V) (hg : g < cP V) (hQ : ∀ I', JFr I I' → Kc I' V → Q (some (.int (cif (ptA V b g) 1 0))) h I' L) : (CT E mX2_wouldPart (d + 6) 0 0 [.ref (eB E + 63), .int (nI b), .int (nI g)] h I L Q) := by
  have n20 := q.w.P.n20
  have n30 := q.w.M.n30
  refine w_X2_wouldPart q.s _ _ ⟨vp_in_nI (by omega) (by decide), ?_⟩
  rw [nI_clamp (show b < 2 ^ 31 by omega), nI_clamp (show g < 2 ^ 31 by omega), bO_op q.b b hb, bO_op q.b g hg]
  rintro y2 rfl
  refine ⟨vp_in_nI (by omega) (by decide), ?_⟩
  rintro y4 rfl
  have no : ¬ ptA V b g → Q (some (.int 0)) h I L := fun hn => by
    have := hQ I (fun _ _ => rfl) q.k
    rw [cif_f hn] at this
    exact this
  obtain ⟨ob1, ob2⟩ := c_open q.b q.w (p := b)
  obtain ⟨og1, og2⟩ := c_open q.b q.w (p := g)
  refine br_c (fun c => no fun e => e.2.2.1 c) (fun c => ⟨ob1, br_c (fun cb => ⟨og1, br_c (fun cg => ?_) (fun cg => no fun e => cg (og2.mpr e.2.1))⟩) (fun cb => no fun e => cb (ob2.mpr e.1))⟩)
  have cb' := ob2.mp cb
  have cg' := og2.mp cg
  obtain ⟨mb1, mb2⟩ := opA_m q.w cb'
  obtain ⟨mg1, mg2⟩ := opA_m q.w cg'
  obtain ⟨xb1, xb2, -⟩ := gr_ok' q.w mb1
  obtain ⟨xg1, xg2, -⟩ := br_ok q.w mg1
  refine c_letsWed q hb hg (fun I1 j1 k1 _ _ _ => qi_i ?_)
  have q1 := q.fr j1.fr k1
  by_cases cm : mayA V b g
  · rw [cif_t cm]
    refine br_f (by decide) ?_
    refine c_likes q1 hb hg (fun I2 j2 k2 => qi_i ⟨by rw [mb2]; exact vp_in_nI (by omega) (by decide), ?_⟩)
    have q2 := q1.fr j2.fr k2
    rw [bM_gro q2.b _ (show (opA V b).toNatClampNeg < 30 by omega), xb2]
    refine c_likes q2 hb xb1 (fun I3 j3 k3 => qi_i ?_)
    have q3 := q2.fr j3.fr k3
    refine br_c (fun cl => ?_) (fun cl => ?_)
    · have := hQ I3 ((j1.tr j2).tr j3) k3
      rw [cif_f (fun e => e.2.2.2.2.1 cl)] at this
      exact this
    · refine c_likes q3 hg hb (fun I4 j4 k4 => qi_i ⟨by rw [mg2]; exact vp_in_nI (by omega) (by decide), ?_⟩)
      have q4 := q3.fr j4.fr k4
      rw [bM_bri q4.b _ (show (opA V g).toNatClampNeg < 30 by omega), xg2]
      refine c_likes q4 hg xg1 (fun I5 j5 k5 => qi_i ?_)
      have fin := hQ I5 ((((j1.tr j2).tr j3).tr j4).tr j5) k5
      by_cases cr : lkA V g b ≤ lkA V g (brN V (opA V g).toNatClampNeg)
      · rw [bI_f (fun e => e cr)]
        rw [cif_f (fun e => e.2.2.2.2.2 cr)] at fin
        exact fin
      · rw [bI_t cr]
        rw [cif_t ⟨cb', cg', c, cm, cl, cr⟩] at fin
        exact fin
  · rw [cif_f cm]
    refine br_t rfl ?_
    have := hQ I1 j1 k1
    rw [cif_f (fun e => cm e.2.2.2.1)] at this
    exact this
theorem m_wouldPart (hs : SL h) (w : Wf V) (hV : MV I V) {b g : Nat} (hb : b < cP V) (hg : g < cP V) (hQ : ∀ I', LFr I I' → Q (some (.int (cif (ptA V b g) 1 0))) h I' L) : (CT E mX12_wouldPart (d + 5) 0 0 [.ref (eB E + 83), .int (nI b), .int (nI g)] h I L Q) := by
  have n20 := w.P.n20
  have n30 := w.M.n30
  refine w_X12_wouldPart hs _ _ ?_
  refine m_openOf hs w hV (qi_i ?_)
  refine m_openOf hs w hV (qi_i ?_)
  have no : ¬ ptA V b g → Q (some (.int 0)) h I L := fun hn => by
    have := hQ I LFr.rf
    rw [cif_f hn] at this
    exact this
  refine br_c (fun c => no fun e => e.1 c) (fun cb => br_c (fun c => no fun e => e.2.1 c) (fun cg => br_c (fun c => no fun e => e.2.2.1 c) (fun c => ?_)))
  obtain ⟨mb1, mb2⟩ := opA_m w cb
  obtain ⟨mg1, mg2⟩ := opA_m w cg
  obtain ⟨xb1, xb2, -⟩ := gr_ok' w mb1
  obtain ⟨xg1, xg2, -⟩ := br_ok w mg1
  refine m_mayWed hs w hV hb hg (fun I1 l1 _ => qi_i ?_)
  have hV1 := hV.fr l1.fr
  by_cases cm : mayA V b g
  · rw [cif_t cm]
    refine br_f (by decide) ?_
    refine m_likingOf hs w hV1 hb hg (fun I2 l2 => qi_i ⟨by rw [mb2]; exact vp_in_nI (by omega) (by decide), ?_⟩)
    have hV2 := hV1.fr l2.fr
    rw [hV2 108 (by decide) (by decide), xb2]
    refine m_likingOf hs w hV2 hb xb1 (fun I3 l3 => qi_i ?_)
    have hV3 := hV2.fr l3.fr
    refine br_c (fun cl => ?_) (fun cl => ?_)
    · have := hQ I3 ((l1.tr l2).tr l3)
      rw [cif_f (fun e => e.2.2.2.2.1 cl)] at this
      exact this
    · refine m_likingOf hs w hV3 hg hb (fun I4 l4 => qi_i ⟨by rw [mg2]; exact vp_in_nI (by omega) (by decide), ?_⟩)
      have hV4 := hV3.fr l4.fr
      rw [hV4 107 (by decide) (by decide), xg2]
      refine m_likingOf hs w hV4 hg xg1 (fun I5 l5 => qi_i ?_)
      have fin := hQ I5 ((((l1.tr l2).tr l3).tr l4).tr l5)
      by_cases cr : lkA V g b ≤ lkA V g (brN V (opA V g).toNatClampNeg)
      · rw [bI_f (fun e => e cr)]
        rw [cif_f (fun e => e.2.2.2.2.2 cr)] at fin
        exact fin
      · rw [bI_t cr]
        rw [cif_t ⟨cb, cg, c, cm, cl, cr⟩] at fin
        exact fin
  · rw [cif_f cm]
    refine br_t rfl ?_
    have := hQ I1 l1
    rw [cif_f (fun e => cm e.2.2.2.1)] at this
    exact this
/-! the public calls late and parts -/
theorem c_late (q : CQ h I V) {k : Int32} (hQ : ∀ I', JFr I I' → Kc I' V → Q (some (.int (ltK V k))) h I' L) : (CT E mX11_late (d + 6) 0 0 [.ref (eB E + 0), .int k] h I L Q) := by
  have n30 := q.w.M.n30
  have e24 : ∀ I', JFr I I' → I' 24 0 = nI (cM V) := fun I' j => by rw [j 24 (by decide), bM_n q.b]; exact q.w.M.n
  refine w_X11_late q.s _ ?_
  by_cases ck : k < 0
  · have hn : ∀ j, j < cM V → ¬ kP (ltA V) k j := by
      rintro j hj ⟨-, e⟩
      rw [← e] at ck
      exact nI_pos (by have := pct_le (ltA V) j; omega) ck
    have fin := hQ I (fun _ _ => rfl) q.k
    rw [ltK, kth_n hn] at fin
    refine w_X11_late_4 q.s _ _ _ (br_c (fun _ => fin) (fun _ => br_t ck fin))
  · obtain ⟨kk, hkk, rfl⟩ := nI_of ck
    have K : ∀ m, m ≤ cM V → ∀ I', JFr I I' → Kc I' V → pct (ltA V) m ≤ kk → (∀ j, j < m → ¬ kP (ltA V) (nI kk) j) → (J E mX11_late (d + 6) Q 0 0 4 [some (.ref (eB E + 0)), some (.int (nI kk)), some (.int (nI (kk - pct (ltA V) m))), some (.int (nI m))] [] h I' L) := by
      refine dn (cM V) ?_ ?_
      · intro I' j' k' hp hno
        have fin := hQ I' j' k'
        rw [ltK, kth_n hno] at fin
        exact w_X11_late_4 q.s _ _ _ (br_t (by rw [e24 I' j']; exact nI_le (Nat.le_refl _) (by omega)) fin)
      · intro m hm ih I' j' k' hp hno
        refine w_X11_late_4 q.s _ _ _ (br_f (by rw [e24 I' j']; exact nI_ge hm (by omega)) (br_f (nI_pos (by omega)) ?_))
        refine c_isLate (q.fr j'.fr k') hm (fun I2 j2 k2 => qi_i ?_)
        rw [nI_1]
        by_cases c : ltA V m
        · rw [cif_t c]
          refine br_f (by decide) ?_
          by_cases e : kk - pct (ltA V) m = 0
          · have fin := hQ I2 (j'.tr j2) k2
            have : pct (ltA V) m = kk := by omega
            rw [ltK, kth_y hm ⟨c, by rw [this]⟩ hno] at fin
            exact br_t (by rw [e]; rfl) fin
          · refine br_f (nI_ne0 (by omega) (by omega)) ?_
            have e2 : nI (kk - pct (ltA V) m) + (-1) = nI (kk - pct (ltA V) (m + 1)) := by
              rw [pct_y c, show kk - pct (ltA V) m = (kk - (pct (ltA V) m + 1)) + 1 by omega, pk_m1]
            rw [e2]
            refine ih I2 (j'.tr j2) k2 (by rw [pct_y c]; omega) (lt_s hno ?_)
            rintro ⟨-, e3⟩
            rw [nI_eq (by omega) (by omega)] at e3
            omega
        · rw [cif_f c]
          refine br_t rfl ?_
          rw [← pct_n c]
          exact ih I2 (j'.tr j2) k2 (by rw [pct_n c]; exact hp) (lt_s hno fun e => c e.1)
    exact K 0 (by omega) I (fun _ _ => rfl) q.k (by rw [pct_0]; omega) (fun j hj => absurd hj (by omega))
theorem m_late (hs : SL h) (w : Wf V) (hV : MV I V) {k : Int32} (hQ : ∀ I', FrM I I' → Q (some (.int (ltK V k))) h I' L) : (CT E mX12_late (d + 4) 0 0 [.ref (eB E + 83), .int k] h I L Q) := by
  have n30 := w.M.n30
  refine w_X12_late hs _ ?_
  have K : ∀ m, m ≤ cM V → ∀ I', FrM I I' → (∀ j, j < m → ¬ kP (ltA V) k j) → (J E mX12_late (d + 4) Q 0 0 9 [some (.ref (eB E + 83)), some (.int k), some (.int (nI (pct (ltA V) m))), some (.int (nI m))] [] h I' L) := by
    have e106 : ∀ I', FrM I I' → I' 106 0 = nI (cM V) := fun I' j => by rw [j 106 (by decide), hV 106 (by decide) (by decide)]; exact w.M.n
    refine dn (cM V) ?_ ?_
    · intro I' j' hno
      have fin := hQ I' j'
      rw [ltK, kth_n hno] at fin
      exact w_X12_late_9 hs _ _ _ (br_t (by rw [e106 I' j']; exact nI_le (Nat.le_refl _) (by omega)) fin)
    · intro m hm ih I' j' hno
      refine w_X12_late_9 hs _ _ _ (br_f (by rw [e106 I' j']; exact nI_ge hm (by omega)) ?_)
      refine m_isLate hs w (hV.fr j') hm (fun I2 l2 => qi_i ?_)
      rw [nI_1, nI_1]
      by_cases c : ltA V m
      · rw [cif_t c]
        refine br_f (by decide) (br_c (fun e => ?_) (fun e => ?_))
        · have fin := hQ I2 (j'.tr l2.fr)
          rw [ltK, kth_y hm ⟨c, e⟩ hno] at fin
          exact fin
        · rw [← pct_y c]
          exact ih I2 (j'.tr l2.fr) (lt_s hno fun q => e q.2)
      · rw [cif_f c]
        refine br_t rfl ?_
        rw [← pct_n c]
        exact ih I2 (j'.tr l2.fr) (lt_s hno fun e => c e.1)
  exact K 0 (by omega) _ FrM.u (fun j hj => absurd hj (by omega))
theorem ix20 {b g : Nat} (hg : g < 20) : (20 * b + g) / 20 = b ∧ (20 * b + g) % 20 = g := by omega
theorem ptP_iff {b g : Nat} (hb : b < cP V) (hg : g < cP V) (n20 : cP V ≤ 20) : ptP V (20 * b + g) ↔ V 97 b = 0 ∧ V 97 g = 1 ∧ ptA V b g := by
  have := ix20 (b := b) (g := g) (by omega)
  unfold ptP
  rw [this.1, this.2]
  exact ⟨fun e => e.2.2, fun e => ⟨hb, hg, e⟩⟩
theorem c_parts (q : CQ h I V) {k : Int32} (hQ : ∀ I', JFr I I' → Kc I' V → Q (some (.int (ptK V k))) h I' L) : (CT E mX11_parts (d + 7) 0 0 [.ref (eB E + 0), .int k] h I L Q) := by
  have n20 := q.w.P.n20
  have e7 : ∀ I', JFr I I' → I' 7 0 = nI (cP V) := fun I' j => by rw [j 7 (by decide), bP_n q.b]; exact q.w.P.n
  refine w_X11_parts q.s _ ?_
  by_cases ck : k < 0
  · have hn : ∀ j, j < 400 → ¬ kP (ptP V) k j := by
      rintro j hj ⟨-, e⟩
      rw [← e] at ck
      exact nI_pos (by have := pct_le (ptP V) j; omega) ck
    have fin := hQ I (fun _ _ => rfl) q.k
    rw [ptK, kth_n hn] at fin
    refine w_X11_parts_4 q.s _ _ _ (br_c (fun _ => fin) (fun _ => br_t ck fin))
  · obtain ⟨kk, hkk, rfl⟩ := nI_of ck
    have K : ∀ b, b ≤ cP V → ∀ I', JFr I I' → Kc I' V → pct (ptP V) (20 * b) ≤ kk → (∀ j, j < 20 * b → ¬ kP (ptP V) (nI kk) j) → (J E mX11_parts (d + 7) Q 0 0 4 [some (.ref (eB E + 0)), some (.int (nI kk)), some (.int (nI (kk - pct (ptP V) (20 * b)))), some (.int (nI b)), none] [] h I' L) := by
      refine dn (cP V) ?_ ?_
      · intro I' j' k' hp hno
        have fin := hQ I' j' k'
        have hall : ∀ j, j < 400 → ¬ kP (ptP V) (nI kk) j := fun j hj e => by
          by_cases c : j < 20 * cP V
          · exact hno j c e
          · have := e.1.1; omega
        rw [ptK, kth_n hall] at fin
        exact w_X11_parts_4 q.s _ _ _ (br_t (by rw [e7 I' j']; exact nI_le (Nat.le_refl _) (by omega)) fin)
      · intro b hb ih I' j' k' hp hno
        refine w_X11_parts_4 q.s _ _ _ (br_f (by rw [e7 I' j']; exact nI_ge hb (by omega)) (br_f (nI_pos (by omega)) ?_))
        have K2 : ∀ g, g ≤ cP V → ∀ I', JFr I I' → Kc I' V → pct (ptP V) (20 * b + g) ≤ kk → (∀ j, j < 20 * b + g → ¬ kP (ptP V) (nI kk) j) → (J E mX11_parts (d + 7) Q 0 0 25 [some (.ref (eB E + 0)), some (.int (nI kk)), some (.int (nI (kk - pct (ptP V) (20 * b + g)))), some (.int (nI b)), some (.int (nI g))] [] h I' L) := by
          refine dn (cP V) ?_ ?_
          · intro I' j' k' hp hno
            refine w_X11_parts_25 q.s _ _ _ _ (br_t (by rw [e7 I' j']; exact nI_le (Nat.le_refl _) (by omega)) ?_)
            rw [nI_1]
            have gap : ∀ j, 20 * b + cP V ≤ j → j < 20 * b + cP V + (20 - cP V) → ¬ ptP V j := fun j h1 h2 e => by have := e.2.1; omega
            have e : pct (ptP V) (20 * (b + 1)) = pct (ptP V) (20 * b + cP V) := by
              have := pct_gap (p := ptP V) (a := 20 * b + cP V) (20 - cP V) gap
              rw [show 20 * b + cP V + (20 - cP V) = 20 * (b + 1) by omega] at this
              exact this
            rw [← e]
            refine ih I' j' k' (by rw [e]; exact hp) (fun j hj ej => ?_)
            by_cases c : j < 20 * b + cP V
            · exact hno j c ej
            · exact gap j (by omega) (by omega) ej.1
          · intro g hg ihg I' j' k' hp hno
            have q' := q.fr j'.fr k'
            have rb : ¬ nI b < 0 ∧ ¬ I' 7 0 ≤ nI b := ⟨nI_pos (by omega), by rw [e7 I' j']; exact nI_ge hb (by omega)⟩
            have rg : ¬ nI g < 0 ∧ ¬ I' 7 0 ≤ nI g := ⟨nI_pos (by omega), by rw [e7 I' j']; exact nI_ge hg (by omega)⟩
            refine w_X11_parts_25 q.s _ _ _ _ (br_f rg.2 ⟨fun _ => vp_in_nI (by omega) (by decide), fun _ _ => vp_in_nI (by omega) (by decide), ?_⟩)
            rw [nI_clamp (show b < 2 ^ 31 by omega), nI_clamp (show g < 2 ^ 31 by omega), bP_kin q'.b b (by omega), bP_kin q'.b g (by omega), nI_1]
            have hiff := ptP_iff (V := V) hb hg n20
            have skip : ¬ ptP V (20 * b + g) → ∀ I2, JFr I' I2 → Kc I2 V → (J E mX11_parts (d + 7) Q 0 0 25 [some (.ref (eB E + 0)), some (.int (nI kk)), some (.int (nI (kk - pct (ptP V) (20 * b + g)))), some (.int (nI b)), some (.int (nI (g + 1)))] [] h I2 L) := fun hn I2 j2 k2 => by
              have := ihg I2 (j'.tr j2) k2 (by rw [← Nat.add_assoc, pct_n hn]; exact hp) (by rw [← Nat.add_assoc]; exact lt_s hno fun e => hn e.1)
              rw [← Nat.add_assoc, pct_n hn] at this
              exact this
            refine br_c (fun c => ?_) (fun c => skip (fun e => c ?_) I' (fun _ _ => rfl) k')
            · refine c_wouldPart q' hb hg (fun I2 j2 k2 => qi_i ?_)
              by_cases cp : ptA V b g
              · have hp1 : ptP V (20 * b + g) := hiff.mpr ⟨c.1.2, c.2.2, cp⟩
                rw [cif_t cp]
                refine br_f (by decide) ?_
                by_cases e : kk - pct (ptP V) (20 * b + g) = 0
                · have fin := hQ I2 (j'.tr j2) k2
                  have e' : pct (ptP V) (20 * b + g) = kk := by omega
                  rw [ptK, kth_y (show 20 * b + g < 400 by omega) ⟨hp1, by rw [e']⟩ hno, (ix20 (by omega)).1, (ix20 (by omega)).2] at fin
                  rw [N100, pk_mul, nI_add]
                  exact br_t (by rw [e]; rfl) fin
                · refine br_f (nI_ne0 (by omega) (by omega)) ?_
                  have e2 : nI (kk - pct (ptP V) (20 * b + g)) + (-1) = nI (kk - pct (ptP V) (20 * b + (g + 1))) := by
                    rw [← Nat.add_assoc, pct_y hp1, show kk - pct (ptP V) (20 * b + g) = (kk - (pct (ptP V) (20 * b + g) + 1)) + 1 by omega, pk_m1]
                  rw [e2]
                  refine ihg I2 (j'.tr j2) k2 (by rw [← Nat.add_assoc, pct_y hp1]; omega) (by
                    rw [← Nat.add_assoc]
                    refine lt_s hno ?_
                    rintro ⟨-, e3⟩
                    have := pct_le (ptP V) (20 * b + g)
                    rw [nI_eq (by omega) (by omega)] at e3
                    omega)
              · rw [cif_f cp]
                exact br_t rfl (skip (fun e => cp (hiff.mp e).2.2) I2 j2 k2)
            · obtain ⟨e1, e2, -⟩ := hiff.mp e
              exact ⟨⟨rb, e1⟩, rg, e2⟩
        exact K2 0 (by omega) I' j' k' hp hno
    exact K 0 (by omega) I (fun _ _ => rfl) q.k (by rw [pct_0]; omega) (fun j hj => absurd hj (by omega))
theorem m_parts (hs : SL h) (w : Wf V) (hV : MV I V) {k : Int32} (hQ : ∀ I', FrM I I' → Q (some (.int (ptK V k))) h I' L) : (CT E mX12_parts (d + 6) 0 0 [.ref (eB E + 83), .int k] h I L Q) := by
  have n20 := w.P.n20
  refine w_X12_parts hs _ ?_
  have e95 : ∀ I', FrM I I' → I' 95 0 = nI (cP V) := fun I' j => by rw [j 95 (by decide), hV 95 (by decide) (by decide)]; exact w.P.n
  have K : ∀ b, b ≤ cP V → ∀ I', FrM I I' → (∀ j, j < 20 * b → ¬ kP (ptP V) k j) → (J E mX12_parts (d + 6) Q 0 0 9 [some (.ref (eB E + 83)), some (.int k), some (.int (nI (pct (ptP V) (20 * b)))), some (.int (nI b)), none] [] h I' L) := by
    refine dn (cP V) ?_ ?_
    · intro I' j' hno
      have fin := hQ I' j'
      have hall : ∀ j, j < 400 → ¬ kP (ptP V) k j := fun j hj e => by
        by_cases c : j < 20 * cP V
        · exact hno j c e
        · have := e.1.1; omega
      rw [ptK, kth_n hall] at fin
      exact w_X12_parts_9 hs _ _ _ (br_t (by rw [e95 I' j']; exact nI_le (Nat.le_refl _) (by omega)) fin)
    · intro b hb ih I' j' hno
      refine w_X12_parts_9 hs _ _ _ (br_f (by rw [e95 I' j']; exact nI_ge hb (by omega)) ?_)
      have leave : ∀ g, g ≤ 20 → (∀ j, 20 * b + g ≤ j → j < 20 * b + g + (20 - g) → ¬ ptP V j) → ∀ I', FrM I I' → (∀ j, j < 20 * b + g → ¬ kP (ptP V) k j) → (J E mX12_parts (d + 6) Q 0 0 9 [some (.ref (eB E + 83)), some (.int k), some (.int (nI (pct (ptP V) (20 * b + g)))), some (.int (nI b + 1)), none] [] h I' L) := by
        intro g hg gap I' j' hno
        rw [nI_1]
        have e : pct (ptP V) (20 * (b + 1)) = pct (ptP V) (20 * b + g) := by
          have := pct_gap (p := ptP V) (a := 20 * b + g) (20 - g) gap
          rw [show 20 * b + g + (20 - g) = 20 * (b + 1) by omega] at this
          exact this
        rw [← e]
        refine ih I' j' (fun j hj ej => ?_)
        by_cases c : j < 20 * b + g
        · exact hno j c ej
        · exact gap j (by omega) (by omega) ej.1
      have K2 : ∀ g, g ≤ cP V → ∀ I', FrM I I' → (∀ j, j < 20 * b + g → ¬ kP (ptP V) k j) → (J E mX12_parts (d + 6) Q 0 0 22 [some (.ref (eB E + 83)), some (.int k), some (.int (nI (pct (ptP V) (20 * b + g)))), some (.int (nI b)), some (.int (nI g))] [] h I' L) := by
        refine dn (cP V) ?_ ?_
        · intro I' j' hno
          refine w_X12_parts_22 hs _ _ _ _ (br_t (by rw [e95 I' j']; exact nI_le (Nat.le_refl _) (by omega)) ?_)
          exact leave (cP V) n20 (fun j h1 h2 e => by have := e.2.1; omega) I' j' hno
        · intro g hg ihg I' j' hno
          have hV' := hV.fr j'
          refine w_X12_parts_22 hs _ _ _ _ (br_f (by rw [e95 I' j']; exact nI_ge hg (by omega)) ⟨vp_in_nI (by omega) (by decide), ?_⟩)
          rw [nI_clamp (show b < 2 ^ 31 by omega), nI_clamp (show g < 2 ^ 31 by omega), hV' 97 (by decide) (by decide), nI_1 g, nI_1 (pct _ _)]
          have hiff := ptP_iff (V := V) hb hg n20
          have skip : ¬ ptP V (20 * b + g) → ∀ I2, FrM I' I2 → (J E mX12_parts (d + 6) Q 0 0 22 [some (.ref (eB E + 83)), some (.int k), some (.int (nI (pct (ptP V) (20 * b + g)))), some (.int (nI b)), some (.int (nI (g + 1)))] [] h I2 L) := fun hn I2 j2 => by
            have := ihg I2 (j'.tr j2) (by rw [← Nat.add_assoc]; exact lt_s hno fun e => hn e.1)
            rw [← Nat.add_assoc, pct_n hn] at this
            exact this
          refine br_c (fun c1 => ⟨vp_in_nI (by omega) (by decide), br_c (fun c2 => ?_) (fun c2 => skip (fun e => c2 (hiff.mp e).2.1) I' FrM.rf)⟩) (fun c1 => leave g (by omega) (fun j h1 h2 e => c1 ?_) I' j' hno)
          · refine m_wouldPart hs w hV' hb hg (fun I2 l2 => qi_i ?_)
            by_cases cp : ptA V b g
            · have hp1 : ptP V (20 * b + g) := hiff.mpr ⟨c1, c2, cp⟩
              rw [cif_t cp]
              refine br_f (by decide) (br_c (fun e => ?_) (fun e => ?_))
              · have fin := hQ I2 (j'.tr l2.fr)
                rw [ptK, kth_y (show 20 * b + g < 400 by omega) ⟨hp1, e⟩ hno, (ix20 (by omega)).1, (ix20 (by omega)).2] at fin
                rw [N100, pk_mul, nI_add]
                exact fin
              · have := ihg I2 (j'.tr l2.fr) (by rw [← Nat.add_assoc]; exact lt_s hno fun q => e q.2)
                rw [← Nat.add_assoc, pct_y hp1] at this
                exact this
            · rw [cif_f cp]
              exact br_t rfl (skip (fun e => cp (hiff.mp e).2.2) I2 l2.fr)
          · have := e.2.2.1
            rw [show j / 20 = b by omega] at this
            exact this
      exact K2 0 (by omega) I' j' hno
  exact K 0 (by omega) _ FrM.u (fun j hj => absurd hj (by omega))
end PT
