/-! texts: the reference takes one, the run -/
theorem r_7 {x : Int32} : (¬ x < 0 ∧ ¬ 6 < x) ↔ inN x 7 := rng_le (m := 6) rfl (by decide)
section LF
variable {tp : Nat → Int32} {n : Nat} {w : Int32}
def LFo (s : PS) : Prop := s.lf = 0 ∨ s.lf = 2 ∨ s.lf = 3
theorem ts2_lf {s : PS} {l k : Nat} {b : Bool} : (ts2 tp n s l k b).2.lf = s.lf ∧ (ts2 tp n s l k b).2.lp = s.lp := by
  unfold ts2
  split
  · exact ⟨rfl, rfl⟩
  · split
    · exact stT_lf
    · split
      · exact ⟨rfl, rfl⟩
      · split
        · exact ⟨rfl, rfl⟩
        · exact stT_lf
theorem ts_LF {s : PS} {l k : Nat} (h : LFo s) : LFo (tsS tp n s l k).2 := by
  unfold tsS LFo
  rw [ts2_lf.1, ts1_e.2.1]
  unfold ts0
  split
  · exact lf_c h (Or.inr rfl)
  · exact h
theorem tl_LF : ∀ {f : Nat} {s : PS} {l k : Nat}, LFo s → LFo (tlS tp n f s l k).2
  | 0, s, l, k, h => h
  | f + 1, s, l, k, h => by
    have h1 : LFo (tsS tp n (adv tp n s) l k).2 := ts_LF (s := adv tp n s) h
    rw [tlS]
    split
    · exact h1
    · split
      · exact tl_LF h1
      · exact h1
theorem need_LF {s : PS} {c : Int32} (h : LFo s) : LFo (needS tp n s c).2 := by
  unfold LFo; rw [need_e.2.1]; exact h
theorem ac_LF {s : PS} {l : Nat} (h : LFo s) : LFo (acS tp n s w l).2 := by
  unfold acS
  split
  · exact h
  · unfold ac2
    split
    · exact need_LF (s := incL (setA (adv tp n (setA s 128 l (actA tp n w s.p))) 129 l 0)) h
    · split
      · exact h
      · refine need_LF ?_
        unfold LFo
        show (if _ then ltr tp n _ 2 else _ : PS).lf = 0 ∨ (if _ then ltr tp n _ 2 else _ : PS).lf = 2 ∨ (if _ then ltr tp n _ 2 else _ : PS).lf = 3
        split
        · exact lf_c (s := setA (adv tp n (setA s 128 l (actA tp n w s.p))) 129 l 0) h (Or.inl rfl)
        · exact h
theorem ln_LF {s : PS} (h : LFo s) : LFo (lnS tp n s w).2 := by
  have h0 : LFo (ln0 tp n s) := by
    unfold ln0
    show (if s.nl = 16 then ltr tp n s 3 else s).lf = 0 ∨ (if s.nl = 16 then ltr tp n s 3 else s).lf = 2 ∨ (if s.nl = 16 then ltr tp n s 3 else s).lf = 3
    split
    · exact lf_c h (Or.inr rfl)
    · exact h
  unfold lnS
  split
  · unfold ln1
    have h1 := tl_LF (tp := tp) (n := n) (f := n + 1) (l := l16 s.nl) (k := 0) h0
    split
    · exact h1
    · split
      · exact need_LF h1
      · exact ac_LF (need_LF h1)
  · exact ac_LF h0
theorem tx_LF : ∀ {f : Nat} {s : PS}, LFo s → LFo (txS tp n f s w).2
  | 0, s, h => h
  | f + 1, s, h => by
    rw [txS]
    split
    · exact h
    · split
      · exact ln_LF h
      · exact tx_LF (ln_LF h)
end LF
section TX
variable {E : Envt} {d : Nat} {Q : Pst} {h : mS} {I V A : mI} {L : mL}
def UMt (I I' : mI) : Prop := UM I I'
theorem FM2.um {I I' : mI} (f : FM2 I I') : UM I I' := fun a ha => f a (by omega) (by omega)
theorem ln_nl {tp : Nat → Int32} {n : Nat} {w : Int32} {s : PS} : (lnS tp n s w).2.nl ≤ s.nl + 1 := by
  have t2 : ∀ (s : PS) (l k : Nat) (b : Bool), (ts2 tp n s l k b).2.nl = s.nl := fun s l k b => by
    unfold ts2
    split
    · rfl
    · split
      · exact stT_nl
      · split
        · rfl
        · split
          · rfl
          · exact stT_nl
  have t1 : ∀ (s : PS) (l k : Nat), (tsS tp n s l k).2.nl = s.nl := fun s l k => by
    unfold tsS; rw [t2, ts1_e.1, ts0_nl]
  have tl : ∀ (f : Nat) (s : PS) (l k : Nat), (tlS tp n f s l k).2.nl = s.nl := by
    intro f
    induction f with
    | zero => intro s l k; rfl
    | succ f ih =>
      intro s l k
      rw [tlS]
      split
      · exact t1 (adv tp n s) l k
      · split
        · rw [ih]; exact t1 (adv tp n s) l k
        · exact t1 (adv tp n s) l k
  have ta : ∀ (s : PS) (l : Nat), (acS tp n s w l).2.nl ≤ s.nl + 1 := fun s l => by
    unfold acS
    split
    · show s.nl ≤ _; omega
    · unfold ac2
      split
      · rw [need_e.1]; exact Nat.le_refl _
      · split
        · show s.nl ≤ _; omega
        · rw [need_e.1]
          show (if _ then ltr tp n _ 2 else _ : PS).nl + 1 ≤ _
          split
          · rw [ltr_nl]; exact Nat.le_refl _
          · exact Nat.le_refl _
  have e0 := ln0_nl (tp := tp) (n := n) (s := s)
  unfold lnS
  split
  · unfold ln1
    split
    · rw [tl, e0]; omega
    · split
      · rw [need_e.1, tl, e0]; omega
      · have := ta (needS tp n (tlS tp n (n + 1) (ln0 tp n s) (l16 s.nl) 0).2 58).2 (l16 s.nl)
        rw [need_e.1, tl, e0] at this
        exact this
  · have := ta (ln0 tp n s) (l16 s.nl)
    rw [e0] at this
    exact this
theorem m_text (hs : SL h) (w : Wf V) (tb : ∀ i, i < cT V → byt (V 84 i)) (hV : MV I V) (hA : ∀ a, 127 ≤ a → a ≤ 132 → I a = A a) {x : Int32} (hQ : ∀ I' L', UM I I' → MV I' (texN V A x).2 → Q (some (.int (texN V A x).1)) h I' L') : (CT E mX12_text (d + 4) 0 0 [.ref (eB E + 83), .int x] h I L Q) := by
  have t5 := w.S.t5
  unfold texN at hQ
  refine w_X12_text hs _ (br_c (fun c => ?_) (fun c => ?_))
  · have c := r_7.mp c
    rw [cip_t c] at hQ
    obtain ⟨x, hx, rfl⟩ := c
    rw [nI_clamp (show x < 2 ^ 31 by omega)] at hQ
    generalize hI0 : uI (uI (uI (uI (uI (uI (uI (uI (uI I 83 0 0) 83 46 (I 85 0)) 85 0 0) 86 0 0) 87 0 (-1)) 83 45 0) 83 51 (-1)) 83 52 0) 83 54 0 = I0
    have u0 : UM I I0 := by
      rw [← hI0]
      exact UM.tr (UM.tr (UM.tr (UM.tr (UM.tr (UM.tr (UM.tr (UM.tr UM.u UM.u) UM.u) UM.u) UM.u) UM.u) UM.u) UM.u) UM.u
    have v0 : MV I0 (txZ V 0 (-1)) := by
      rw [← hI0]
      have z1 : MV (uI (uI I 83 0 0) 83 46 (I 85 0)) V := hV.o.o
      have z2 : MV (uI (uI (uI (uI (uI I 83 0 0) 83 46 (I 85 0)) 85 0 0) 86 0 0) 87 0 (-1)) (txZ V 0 (-1)) := z1.u.u.u
      exact z2.o.o.o.o
    have i84 : I0 84 = V 84 := by rw [v0 84 (by decide) (by decide)]; unfold txZ; rw [uI_ne (by decide), uI_ne (by decide), uI_ne (by decide)]
    have i46 : I0 83 46 = nI (cT V) := by
      rw [← hI0]
      simp (disch := decide) only [uI_ne, uI_nj, uI_eq]
      rw [hV 85 (by decide) (by decide)]; exact w.S.t
    have i45 : I0 83 45 = nI 0 := by rw [← hI0]; simp (disch := decide) only [uI_ne, uI_nj, uI_eq]; rfl
    have i52 : I0 83 52 = 0 := by rw [← hI0]; simp (disch := decide) only [uI_ne, uI_nj, uI_eq]
    have i54 : I0 83 54 = nI 0 := by rw [← hI0]; simp (disch := decide) only [uI_ne, uI_nj, uI_eq]; rfl
    have iA : ∀ a, 127 ≤ a → a ≤ 132 → I0 a = A a := fun a h1 h2 => by
      rw [← hI0]
      rw [uI_ne (by omega), uI_ne (by omega), uI_ne (by omega), uI_ne (by omega), uI_ne (by omega), uI_ne (by omega), uI_ne (by omega), uI_ne (by omega), uI_ne (by omega)]; exact hA a h1 h2
    refine m_token (tp := V 84) (n := cT V) (p := 0) hs tb t5 (by omega) i46 (fun i _ => by rw [i84]) i45 (fun I1 L1 f1 t1 => qvL_i ?_)
    have r1 : PMs (V 84) (cT V) I1 L1 (tx0 A) := by
      refine ⟨t1, ?_, fun e => absurd rfl e, ?_, fun a h1 h2 => ?_, ?_, fun i hi => ?_⟩
      · rw [f1.2 52 (by decide) (by decide) (by decide) (by decide)]; exact i52
      · rw [f1.2 54 (by decide) (by decide) (by decide) (by decide)]; exact i54
      · rw [f1.1 a (by omega)]; exact iA a h1 h2
      · rw [f1.2 46 (by decide) (by decide) (by decide) (by decide)]; exact i46
      · rw [f1.1 84 (by decide), i84]
    have fin : ∀ {I2 : mI} {L2 : mL} {b : Bool}, FM2 I0 I2 → b = (txF V A x).1 → PMb (V 84) (cT V) I2 L2 (txF V A x) → (J E mX12_text (d + 4) Q 0 0 104 [some (.ref (eB E + 83)), some (.int (nI x)), some (.int (tf b)), none, none, none] [] h I2 L2) := by
      intro I2 L2 b f2 eb r2
      have um2 : UM I I2 := UM.tr u0 f2.um
      have v2 : MV I2 (txZ V 0 (-1)) := fun a h1 h2 => by rw [f2 a (by omega) (by omega)]; exact v0 a h1 h2
      have bad : ∀ {f p : Int32}, (if tf b = 0 then 1 else I2 83 52 : Int32) = f → (if tf b = 0 then I2 83 51 else I2 83 53 : Int32) = p → txG V A x = (-1, txZ V f p) → (J E mX12_text (d + 4) Q 0 0 115 [some (.ref (eB E + 83)), some (.int (nI x)), some (.int (tf b)), none, none, none] [] h I2 L2) := by
        intro f p e1 e2 eg
        rw [eg] at hQ
        refine w_X12_text_115 hs _ _ ?_
        rw [e1, e2]
        refine hQ _ _ (UM.tr um2 (UM.tr UM.u UM.u)) ?_
        have v3 := (v2.u (a := 86) (i := 0) (x := f)).u (a := 87) (i := 0) (x := p)
        have e3 : uI (uI (txZ V 0 (-1)) 86 0 f) 87 0 p = txZ V f p := by
          unfold txZ
          funext a i
          by_cases c1 : a = 87
          · subst c1; by_cases c3 : i = 0 <;> simp [uI, c3]
          · by_cases c2 : a = 86
            · subst c2; by_cases c3 : i = 0 <;> simp [uI, c3]
            · simp [uI, c1, c2]
        rw [e3] at v3
        exact v3
      refine w_X12_text_104 hs _ _ ?_
      cases hb : b with
      | false =>
        subst hb
        refine br_t rfl (bad rfl rfl ?_)
        have e3 := r2.2 eb.symm
        unfold txG
        rw [if_pos eb.symm, if_pos (show tf false = 0 from rfl), if_pos (show tf false = 0 from rfl), e3]
      | true =>
        subst hb
        refine br_f (by decide) ?_
        have r3 := r2.1 eb.symm
        have e1 : ¬ (txF V A x).1 = false := by rw [← eb]; decide
        have lfo : LFo (txF V A x).2 := tx_LF (Or.inl rfl)
        by_cases c4 : (txF V A x).2.lf = 0
        · have i52' : I2 83 52 = 0 := by rw [r3.2.1]; exact c4
          refine br_t (by rw [i52']; decide) ⟨vp_in_nI (by omega) (by decide), ?_⟩
          have eg : txG V A x = (nI (txF V A x).2.nl, txR (uI (txZ V 0 (-1)) 116 x (nI (txF V A x).2.nl)) (txF V A x).2.a x (txF V A x).2.nl (txF V A x).2.nl 0) := by unfold txG; rw [if_neg e1, if_neg (fun z => z c4)]
          rw [eg] at hQ
          have po : POf (bI (¬ nI x < 5)) (txF V A x).2 := tx_PO (fun _ => ⟨show (0 : Nat) ≤ 16 by decide, fun l hl => absurd (show l < 0 from hl) (Nat.not_lt_zero _)⟩) eb.symm
          obtain ⟨n16, rows⟩ := po c4
          generalize txF V A x = r at hQ r3 n16 rows
          have i54' := r3.2.2.2.1
          have rA := r3.2.2.2.2.1
          rw [nI_clamp (show x < 2 ^ 31 by omega), i54']
          have K : ∀ l, l ≤ r.2.nl → ∀ I', UM I I' → MV I' (txR (uI (txZ V 0 (-1)) 116 x (nI r.2.nl)) r.2.a x l l 0) → I' 83 54 = nI r.2.nl → (∀ a, 127 ≤ a → a ≤ 132 → I' a = r.2.a a) → (J E mX12_text (d + 4) Q 0 0 168 [some (.ref (eB E + 83)), some (.int (nI x)), some (.int (tf true)), some (.int (nI l)), none, none] [] h I' L2) := by
            refine dn r.2.nl ?_ ?_
            · intro I' u' v' e54 eA
              refine w_X12_text_168 hs _ _ _ ?_
              rw [e54]
              exact br_t (nI_le (Nat.le_refl _) (by omega)) (hQ I' L2 u' v')
            · intro l hl ih I' u' v' e54 eA
              obtain ⟨⟨t, t4, et, -⟩, -⟩ := rows l hl
              have etc : tcA r.2.a l = t := by unfold tcA; rw [et, nI_clamp (by omega)]
              refine w_X12_text_168 hs _ _ _ ?_
              have k1 : 16 * nI x + nI l = nI (16 * x + l) := by rw [N16, pk_mul, nI_add]
              rw [e54, k1, nI_clamp (show 16 * x + l < 2 ^ 31 by omega), nI_clamp (show l < 2 ^ 31 by omega), eA 127 (by decide) (by decide), eA 128 (by decide) (by decide), eA 129 (by decide) (by decide)]
              refine br_f (nI_ge hl (by omega)) ⟨vp_in_nI (by omega) (by decide), vp_in_nI (by omega) (by decide), ?_⟩
              have v3 := (v'.u (a := 117) (i := 16 * x + l) (x := r.2.a 127 l)).u (a := 118) (i := 16 * x + l) (x := r.2.a 128 l) |>.u (a := 119) (i := 16 * x + l) (x := r.2.a 129 l)
              rw [txR_row] at v3
              have K2 : ∀ j, j ≤ t → ∀ I', UM I I' → MV I' (txR (uI (txZ V 0 (-1)) 116 x (nI r.2.nl)) r.2.a x (l + 1) l j) → I' 83 54 = nI r.2.nl → (∀ a, 127 ≤ a → a ≤ 132 → I' a = r.2.a a) → (J E mX12_text (d + 4) Q 0 0 226 [some (.ref (eB E + 83)), some (.int (nI x)), some (.int (tf true)), some (.int (nI l)), some (.int (nI (16 * x + l))), some (.int (nI j))] [] h I' L2) := by
                refine dn t ?_ ?_
                · intro I' u' v' e54 eA
                  refine w_X12_text_226 hs _ _ _ _ _ ⟨vp_in_nI (by omega) (by decide), ?_⟩
                  rw [nI_clamp (show l < 2 ^ 31 by omega), eA 127 (by decide) (by decide), et, nI_1]
                  refine br_t (nI_le (Nat.le_refl _) (by omega)) (ih I' u' ?_ e54 eA)
                  rw [← txR_next, etc]; exact v'
                · intro j hj ihj I' u' v' e54 eA
                  refine w_X12_text_226 hs _ _ _ _ _ ⟨vp_in_nI (by omega) (by decide), ?_⟩
                  have p1 : 4 * nI l + nI j = nI (4 * l + j) := by rw [N4, pk_mul, nI_add]
                  have p2 : 4 * nI (16 * x + l) + nI j = nI (64 * x + (4 * l + j)) := by rw [N4, pk_mul, nI_add]; congr 1; omega
                  rw [nI_clamp (show l < 2 ^ 31 by omega), p1, p2, nI_clamp (show 4 * l + j < 2 ^ 31 by omega), nI_clamp (show 64 * x + (4 * l + j) < 2 ^ 31 by omega), eA 127 (by decide) (by decide), eA 130 (by decide) (by decide), eA 131 (by decide) (by decide), eA 132 (by decide) (by decide), et, nI_1 j]
                  refine br_f (nI_ge hj (by omega)) ⟨vp_in_nI (by omega) (by decide), vp_in_nI (by omega) (by decide), ?_⟩
                  have v3 := (v'.u (a := 120) (i := 64 * x + (4 * l + j)) (x := r.2.a 130 (4 * l + j))).u (a := 121) (i := 64 * x + (4 * l + j)) (x := r.2.a 131 (4 * l + j)) |>.u (a := 122) (i := 64 * x + (4 * l + j)) (x := r.2.a 132 (4 * l + j))
                  rw [txR_word (by omega)] at v3
                  exact ihj _ (UM.tr u' (UM.tr (UM.tr UM.u UM.u) UM.u)) v3 (by rw [uI_ne (by decide), uI_ne (by decide), uI_ne (by decide)]; exact e54) (fun a h1 h2 => by rw [uI_ne (by omega), uI_ne (by omega), uI_ne (by omega)]; exact eA a h1 h2)
              exact K2 0 (by omega) _ (UM.tr u' (UM.tr (UM.tr UM.u UM.u) UM.u)) v3 (by rw [uI_ne (by decide), uI_ne (by decide), uI_ne (by decide)]; exact e54) (fun a h1 h2 => by rw [uI_ne (by omega), uI_ne (by omega), uI_ne (by omega)]; exact eA a h1 h2)
          refine K 0 (by omega) _ (UM.tr um2 UM.u) ?_ (by rw [uI_ne (by decide)]; exact i54') (fun a h1 h2 => by rw [uI_ne (by omega)]; exact rA a h1 h2)
          rw [txR_0]
          exact v2.u
        · have i52' := r3.2.1
          have i53' := r3.2.2.1 c4
          refine br_f ?_ (bad rfl rfl ?_)
          · rw [i52']
            rcases lfo with e | e | e
            · exact absurd e c4
            · rw [e]; decide
            · rw [e]; decide
          · unfold txG
            rw [if_neg e1, if_pos c4, if_neg (show ¬ tf true = 0 by decide), if_neg (show ¬ tf true = 0 by decide), i52', i53']
    have K : ∀ f s I2 L2 b, cT V + 1 ≤ f + s.p → s.p ≤ cT V → s.nl ≤ s.p → FM2 I0 I2 → (b = true → PMs (V 84) (cT V) I2 L2 s ∧ txF V A x = txS (V 84) (cT V) f s (bI (¬ nI x < 5))) → (b = false → PMb (V 84) (cT V) I2 L2 (txF V A x) ∧ (txF V A x).1 = false) → (J E mX12_text (d + 4) Q 0 0 75 [some (.ref (eB E + 83)), some (.int (nI x)), some (.int (tf b)), none, none, none] [] h I2 L2) := by
      intro f
      induction f with
      | zero => intro s I2 L2 b h1 h2; omega
      | succ f ih =>
        intro s I2 L2 b h1 h2 h3 f2 k1 k2
        refine w_X12_text_75 hs _ _ ?_
        cases b with
        | false =>
          obtain ⟨r2, e2⟩ := k2 rfl
          exact br_t rfl (fin f2 e2.symm r2)
        | true =>
          obtain ⟨r2, e2⟩ := k1 rfl
          have et : txS (V 84) (cT V) (f + 1) s (bI (¬ nI x < 5)) = if knd (V 84) (cT V) s.p = 0 then (true, s) else if (lnS (V 84) (cT V) s (bI (¬ nI x < 5))).1 = false then lnS (V 84) (cT V) s (bI (¬ nI x < 5)) else txS (V 84) (cT V) f (lnS (V 84) (cT V) s (bI (¬ nI x < 5))).2 (bI (¬ nI x < 5)) := rfl
          rw [et] at e2
          refine br_f (by decide) ?_
          rw [r2.1.2.2.1]
          by_cases c0 : knd (V 84) (cT V) s.p = 0
          · rw [if_pos c0] at e2
            refine br_t ((sM_i (knd_c _)).2.2.2.mpr c0) (fin f2 (by rw [e2]) ?_)
            rw [e2]; exact PMb.t r2
          · rw [if_neg c0] at e2
            refine br_f (fun e => c0 ((sM_i (knd_c _)).2.2.2.mp e)) ?_
            refine m_line hs tb t5 r2 h2 (by omega) (fun I3 L3 f3 r3 => qiL_i ?_)
            have z := lnS_p (tp := V 84) (w := bI (¬ nI x < 5)) h2
            have zn := ln_nl (tp := V 84) (n := cT V) (w := bI (¬ nI x < 5)) (s := s)
            by_cases c1 : (lnS (V 84) (cT V) s (bI (¬ nI x < 5))).1 = false
            · rw [if_pos c1] at e2
              rw [c1]
              have q2 : PMb (V 84) (cT V) I3 L3 (txF V A x) ∧ (txF V A x).1 = false := by rw [e2]; exact ⟨r3, c1⟩
              refine w_X12_text_75 hs _ _ (br_t rfl (fin (FM2.tr f2 f3) q2.2.symm q2.1))
            · rw [if_neg c1] at e2
              have c2 : (lnS (V 84) (cT V) s (bI (¬ nI x < 5))).1 = true := by simpa using c1
              have mv := z.2.2 c2
              rw [c2]
              exact ih _ I3 L3 true (by omega) z.2.1 (by omega) (FM2.tr f2 f3) (fun _ => ⟨r3.1 c2, e2⟩) (fun q => absurd q (by decide))
    exact K (cT V + 1) (tx0 A) I1 L1 true (by omega) (Nat.zero_le _) (Nat.le_refl _) f1.m2 (fun _ => ⟨r1, rfl⟩) (fun q => absurd q (by decide))
  · have c := fun e => c (r_7.mpr e)
    rw [cip_f c] at hQ
    have z1 : MV (uI (uI I 83 0 0) 83 46 (I 85 0)) V := hV.o.o
    exact hQ _ _ (UM.tr (UM.tr (UM.tr (UM.tr UM.u UM.u) UM.u) UM.u) UM.u) z1.u.u.u
end TX
