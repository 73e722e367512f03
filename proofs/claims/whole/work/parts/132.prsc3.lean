/-! texts: the component reads lines -/
section PE
variable {tp : Nat → Int32} {n : Nat} {w : Int32}
def ac3 (tp : Nat → Int32) (n : Nat) (s : PS) (w : Int32) (l : Nat) : Bool × PS :=
  if w = 0 then (true, incL (setA s 129 l 0))
  else if ¬ knd tp n s.p = 2 then (false, setA s 129 l 0)
  else (true, incL (adv tp n (setA (if w = 2 ∧ ¬ wor tp n s.p ≤ 100 then ltr tp n (setA s 129 l 0) 2 else setA s 129 l 0) 129 l (wor tp n s.p))))
def acT (tp : Nat → Int32) (n : Nat) (s : PS) (w : Int32) (l : Nat) : Bool × PS :=
  if actA tp n w s.p = (-1) then (false, setA s 128 l (-1)) else ac3 tp n (adv tp n (setA s 128 l (actA tp n w s.p))) (actA tp n w s.p) l
theorem acS_T {s : PS} {l : Nat} : acS tp n s w l = if (acT tp n s w l).1 = false then acT tp n s w l else needS tp n (acT tp n s w l).2 59 := by
  unfold acS acT
  by_cases c : actA tp n w s.p = (-1)
  · rw [if_pos c, if_pos c, if_pos rfl]
  · rw [if_neg c, if_neg c]
    unfold ac2 ac3
    by_cases c2 : actA tp n w s.p = 0
    · rw [if_pos c2, if_pos c2, if_neg (fun z => absurd (show true = false from z) (by decide))]
    · rw [if_neg c2, if_neg c2]
      by_cases c3 : ¬ knd tp n (adv tp n (setA s 128 l (actA tp n w s.p))).p = 2
      · rw [if_pos c3, if_pos c3, if_pos rfl]
      · rw [if_neg c3, if_neg c3, if_neg (fun z => absurd (show true = false from z) (by decide))]
def lnT (tp : Nat → Int32) (n : Nat) (s : PS) (l : Nat) : Bool × PS := if (tlS tp n (n + 1) s l 0).1 = false then tlS tp n (n + 1) s l 0 else needS tp n (tlS tp n (n + 1) s l 0).2 58
theorem ln1_T {s : PS} {l : Nat} : ln1 tp n (tlS tp n (n + 1) s l 0) w l = if (lnT tp n s l).1 = false then lnT tp n s l else acS tp n (lnT tp n s l).2 w l := by
  unfold ln1 lnT
  by_cases c : (tlS tp n (n + 1) s l 0).1 = false
  · rw [if_pos c, if_pos c, if_pos c]
  · rw [if_neg c, if_neg c]
variable {E : Envt} {d : Nat} {Q : Pst} {h : mS} {I : mI} {L : mL} {s : PS} {k : Nat}
theorem PIf.set {c : Nat} {x : Int32} (h : PIf w s k) (hc : c = 128 ∨ c = 129) : PIf w (setA s c (l16 s.nl) x) k := by
  intro e
  have e : s.lf = 0 := e
  obtain ⟨h1, h2, h3, h4, h5⟩ := h e
  rw [l16_lt h1]
  have o : ∀ b, b ≠ 128 → b ≠ 129 → (setA s c s.nl x).a b = s.a b := fun b g1 g2 => by show uI s.a c s.nl x b = _; rw [uI_ne (by omega)]
  have o2 : ∀ b l, l ≠ s.nl → (setA s c s.nl x).a b l = s.a b l := fun b l g => by
    show uI s.a c s.nl x b l = _
    by_cases eb : b = c
    · subst eb; rw [uI_nj g]
    · rw [uI_ne eb]
  refine ⟨h1, fun l hl => (h2 l hl).cg (by rw [o 127 (by decide) (by decide)]) (o2 128 l (Nat.ne_of_lt hl)) (o2 129 l (Nat.ne_of_lt hl)) (fun b j b1 b2 _ => by rw [o b (by omega) (by omega)]), h3, ?_, fun j hj => ?_⟩
  · rw [o 127 (by decide) (by decide)]; exact h4
  · exact (h5 j hj).cg (by rw [o 130 (by decide) (by decide)]) (by rw [o 131 (by decide) (by decide)]) (by rw [o 132 (by decide) (by decide)])
theorem PCs.set {c : Nat} {x : Int32} (r : PCs tp n w I s k) (pi : PIf w s k) (hc : c = 128 ∨ c = 129) : PCs tp n w I (setA s c (l16 s.nl) x) k := by
  obtain ⟨t, r1, r2, r3, r4, r5⟩ := r
  refine ⟨t, r1, fun e => ?_, r3, r4, r5⟩
  have e : s.lf = 0 := e
  show Dr0 I s.nl (uI s.a c (l16 s.nl) x) k
  rw [l16_lt (pi e).1]
  exact (r2 e).set hc
theorem c_keepLine (hs : SL h) {x y : Int32} (r : PCs tp n w I s k) (pi : PIf w s k) (hxy : s.lf = 0 → s.a 128 s.nl = x ∧ s.a 129 s.nl = y) (hQ : ∀ I', FT I I' → PCs tp n w I' (incL s) 0 → Q none h I' L) : (CT E mX8_keepLine d 0 0 [.ref (eB E + 47), .int x, .int y] h I L Q) := by
  have r0 := r
  obtain ⟨tk, r1, r2, r3, r4, r5⟩ := r
  refine w_X8_keepLine hs _ _ ?_
  by_cases c : s.lf = 0
  · obtain ⟨⟨d0, d1, d2, d3⟩, d4, d5, d6⟩ := r2 c
    obtain ⟨p1, p2, p3, p4, p5⟩ := pi c
    obtain ⟨ex, ey⟩ := hxy c
    have fl := ft_le p2
    have etc : tcA s.a s.nl = k := by unfold tcA; rw [p4, nI_clamp (by omega)]
    have efs : ftS s.a (s.nl + 1) = ftS s.a s.nl + k := by rw [← etc]; rfl
    refine br_t d0 ?_
    rw [d2, nI_1, nI_clamp (show s.nl < 2 ^ 31 by omega), nI_clamp (show s.nl + 1 < 2 ^ 31 by omega), d3]
    refine ⟨vp_in_nI (by omega) (by decide), vp_in_nI (by omega) (by decide), hQ _ ⟨fun a ha => ?_, ?_, ?_⟩ ⟨tk.cg fun j hj => ?_, ?_, fun _ => ⟨⟨?_, ?_, ?_, ?_⟩, fun l hl => ?_, fun l hl => ?_, fun l j hh => ?_⟩, fun e => absurd c e, ?_, ?_⟩⟩
    · rw [uI_ne (by omega), uI_ne (by omega), uI_ne (by omega), uI_ne (by omega)]
    · rw [uI_nj (by omega), uI_ne (by decide), uI_ne (by decide), uI_ne (by decide)]
    · simp (disch := decide) only [uI_ne]
    · rw [uI_ne (by decide), uI_nj (by omega), uI_ne (by decide), uI_ne (by decide)]
    · simp (disch := decide) only [uI_ne, uI_nj]; exact r1
    · simp (disch := decide) only [uI_ne, uI_nj]; exact d0
    · simp (disch := decide) only [uI_ne, uI_nj]; exact d1
    · rw [uI_ne (by decide), uI_eq]; rfl
    · rw [uI_ne (by decide), uI_nj (by decide), uI_ne (by decide), uI_ne (by decide), d3]
      show nI (ftS s.a s.nl + k) = nI (ftS s.a (s.nl + 1) + 0)
      rw [efs]; rfl
    · have hl : l ≤ s.nl + 1 := hl
      show _ = nI (ftS s.a l)
      by_cases e : l = s.nl + 1
      · subst e; rw [uI_eq, efs]
      · rw [uI_nj e, uI_ne (by decide), uI_ne (by decide), uI_ne (by decide)]; exact d4 l (by omega)
    · have hl : l < s.nl + 1 := hl
      show _ = s.a 128 l ∧ _ = s.a 129 l
      simp (disch := decide) only [uI_ne, uI_at]
      by_cases e : l = s.nl
      · subst e; rw [upd_same', upd_same']; exact ⟨ex.symm, ey.symm⟩
      · rw [upd_ne' e, upd_ne' e]; exact d5 l (by omega)
    · have hh : (l < s.nl + 1 ∧ j < tcA s.a l) ∨ (l = s.nl + 1 ∧ j < 0) := hh
      show TWc _ s.a (ftS s.a l + j) (4 * l + j)
      unfold TWc
      simp (disch := decide) only [uI_ne]
      refine d6 l j ?_
      rcases hh with hh | hh
      · by_cases e : l = s.nl
        · right; rw [e, etc] at hh; exact ⟨e, hh.2⟩
        · left; exact ⟨by omega, hh.2⟩
      · omega
    · simp (disch := decide) only [uI_ne]; exact r4
    · simp (disch := decide) only [uI_ne]; exact r5
  · exact br_f (by rw [(r3 c).1]; exact c) (hQ I FT.rf ⟨tk, r1, fun e => absurd e c, r3, r4, r5⟩)
theorem c_readAct (hs : SL h) (n5 : n ≤ 500) (r : PCs tp n w I s k) (pi : PIf w s k) (hp : s.p ≤ n) (h1 : ∀ I', FT I I' → (acT tp n s w (l16 s.nl)).1 = true → PCs tp n w I' (acT tp n s w (l16 s.nl)).2 0 → Q (some (.int 1)) h I' L) (h0 : ∀ I', FT I I' → (acT tp n s w (l16 s.nl)).1 = false → PCf tp n I' (acT tp n s w (l16 s.nl)).2 → Q (some (.int 0)) h I' L) : (CT E mX8_readAct (d + 6) 0 0 [.ref (eB E + 47)] h I L Q) := by
  have b1 := nxt_le (tp := tp) hp
  refine w_X8_readAct hs (c_act hs n5 r hp (qi_i ?_))
  refine br_c (fun c1 => ?_) (fun c1 => ?_)
  · have e : acT tp n s w (l16 s.nl) = (false, setA s 128 (l16 s.nl) (-1)) := by unfold acT; rw [if_pos c1]
    rw [e] at h0
    exact c_refuse (tp := tp) (n := n) (s := setA s 128 (l16 s.nl) (-1)) hs r.1.2.1 (fun I2 f2 r2 => qi_i ⟨Or.inl rfl, h0 I2 f2 rfl r2⟩)
  · have ra := r.set (x := actA tp n w s.p) pi (Or.inl rfl)
    have pa := pi.set (x := actA tp n w s.p) (Or.inl rfl)
    have e0 : acT tp n s w (l16 s.nl) = ac3 tp n (adv tp n (setA s 128 (l16 s.nl) (actA tp n w s.p))) (actA tp n w s.p) (l16 s.nl) := by unfold acT; rw [if_neg c1]
    rw [e0] at h1 h0
    have hx : s.lf = 0 → (setA s 128 (l16 s.nl) (actA tp n w s.p)).a 128 s.nl = actA tp n w s.p := fun e => by
      show uI s.a 128 (l16 s.nl) _ 128 s.nl = _
      rw [l16_lt (pi e).1, uI_eq]
    have enl : (adv tp n (setA s 128 (l16 s.nl) (actA tp n w s.p))).nl = s.nl := rfl
    refine c_adv hs n5 ra hp (fun I1 f1 _ r1 => qv_i ?_)
    have p1 : PIf w (adv tp n (setA s 128 (l16 s.nl) (actA tp n w s.p))) k := pa
    have hx1 : (adv tp n (setA s 128 (l16 s.nl) (actA tp n w s.p))).lf = 0 → (adv tp n (setA s 128 (l16 s.nl) (actA tp n w s.p))).a 128 s.nl = actA tp n w s.p := hx
    have hp1 : (adv tp n (setA s 128 (l16 s.nl) (actA tp n w s.p))).p ≤ n := b1
    generalize adv tp n (setA s 128 (l16 s.nl) (actA tp n w s.p)) = s1 at h1 h0 enl r1 p1 hx1 hp1
    generalize actA tp n w s.p = x at h1 h0 hx1 c1
    rw [← enl] at h1 h0 hx1
    have b2 := nxt_le (tp := tp) hp1
    have r2 := r1.set (x := 0) p1 (Or.inr rfl)
    have p2 := p1.set (x := 0) (Or.inr rfl)
    have hx2 : (setA s1 129 (l16 s1.nl) 0).lf = 0 → (setA s1 129 (l16 s1.nl) 0).a 128 s1.nl = x ∧ (setA s1 129 (l16 s1.nl) 0).a 129 s1.nl = 0 := fun e => by
      have e : s1.lf = 0 := e
      show uI s1.a 129 (l16 s1.nl) 0 128 s1.nl = _ ∧ uI s1.a 129 (l16 s1.nl) 0 129 s1.nl = _
      rw [l16_lt (p1 e).1, uI_ne (by decide), uI_eq]
      exact ⟨hx1 e, rfl⟩
    refine br_c (fun c2 => ?_) (fun c2 => ?_)
    · have e : ac3 tp n s1 x (l16 s1.nl) = (true, incL (setA s1 129 (l16 s1.nl) 0)) := by unfold ac3; rw [if_pos c2]
      rw [e] at h1
      exact c_keepLine hs r2 p2 hx2 (fun I2 f2 r3 => qv_i (h1 I2 (FT.tr f1 f2) rfl r3))
    · rw [r1.1.1]
      by_cases k2 : knd tp n s1.p = 2
      · refine br_t k2 ?_
        rw [r1.1.2.2.2 k2]
        have fin : ∀ {I2 : mI} {s3 : PS}, FT I I2 → PCs tp n w I2 s3 k → PIf w s3 k → s3.p = s1.p → s3.nl = s1.nl → (s3.lf = 0 → s3.a 128 s1.nl = x) → ac3 tp n s1 x (l16 s1.nl) = (true, incL (adv tp n (setA s3 129 (l16 s1.nl) (wor tp n s1.p)))) → CT E mX8_advance (d + 5) 0 0 [.ref (eB E + 47)] h I2 L (qv h L fun I12 => (CT E mX8_keepLine (d + 5) 0 0 [.ref (eB E + 47), .int x, .int (wor tp n s1.p)] h I12 L (qv h L fun I13 => Q (some (.int 1)) h I13 L))) := by
          intro I2 s3 f2 r3 p3 ep en hx3 e
          rw [e] at h1
          rw [← en] at h1 hx3
          have r4 := r3.set (x := wor tp n s1.p) p3 (Or.inr rfl)
          have p4 := p3.set (x := wor tp n s1.p) (Or.inr rfl)
          refine c_adv hs n5 r4 (by show s3.p ≤ n; rw [ep]; exact hp1) (fun I5 f5 _ r5 => qv_i ?_)
          refine c_keepLine (s := adv tp n (setA s3 129 (l16 s3.nl) (wor tp n s1.p))) hs r5 p4 (fun e => ?_) (fun I6 f6 r6 => qv_i (h1 I6 (FT.tr f2 (FT.tr f5 f6)) rfl r6))
          have e : s3.lf = 0 := e
          show uI s3.a 129 (l16 s3.nl) (wor tp n s1.p) 128 s3.nl = _ ∧ uI s3.a 129 (l16 s3.nl) (wor tp n s1.p) 129 s3.nl = _
          rw [l16_lt (p3 e).1, uI_ne (by decide), uI_eq]
          exact ⟨hx3 e, rfl⟩
        refine br_c (fun c3 => br_c (fun c4 => ?_) (fun c4 => ?_)) (fun c3 => ?_)
        · refine fin f1 r2 p2 rfl rfl (fun e => (hx2 e).1) ?_
          unfold ac3; rw [if_neg c2, if_neg (fun z => z k2), if_neg (fun z => z.2 c4)]
        · refine c_note hs (f := 2) (by decide) r2 (fun I3 f3 _ r3 => qv_i ?_)
          have e4 : I3 47 4 = wor tp n s1.p := by
            have := r3.1.2.2.2
            rw [ltr_p] at this
            exact this k2
          rw [e4]
          refine fin (FT.tr f1 f3) r3 (PIf.ltr (by decide)) (by rw [ltr_p]; rfl) (by rw [ltr_nl]; rfl) (fun e => ((ltr_lf (by decide)).mp e).elim) ?_
          unfold ac3; rw [if_neg c2, if_neg (fun z => z k2), if_pos ⟨c3, c4⟩]
        · refine fin f1 r2 p2 rfl rfl (fun e => (hx2 e).1) ?_
          unfold ac3; rw [if_neg c2, if_neg (fun z => z k2), if_neg (fun z => c3 z.1)]
      · refine br_f k2 ?_
        have e : ac3 tp n s1 x (l16 s1.nl) = (false, setA s1 129 (l16 s1.nl) 0) := by unfold ac3; rw [if_neg c2, if_pos k2]
        rw [e] at h0
        exact c_refuse (tp := tp) (n := n) (s := setA s1 129 (l16 s1.nl) 0) hs r1.1.2.1 (fun I2 f2 r2 => qi_i ⟨Or.inl rfl, h0 I2 (FT.tr f1 f2) rfl r2⟩)
theorem c_readTests (hs : SL h) (n5 : n ≤ 500) (r : PCs tp n w I s 0) (r8 : PC8 I s 0) (pi : PIf w s 0) (hp : s.p ≤ n) (h1 : ∀ I' m, FT I I' → (lnT tp n s (l16 s.nl)).1 = true → PCs tp n w I' (lnT tp n s (l16 s.nl)).2 m → PIf w (lnT tp n s (l16 s.nl)).2 m → (lnT tp n s (l16 s.nl)).2.nl = s.nl → Q (some (.int 1)) h I' L) (h0 : ∀ I', FT I I' → (lnT tp n s (l16 s.nl)).1 = false → PCf tp n I' (lnT tp n s (l16 s.nl)).2 → Q (some (.int 0)) h I' L) : (CT E mX8_readTests (d + 7) 0 0 [.ref (eB E + 47)] h I L Q) := by
  have K : ∀ f k I2 s2 b, n + 1 ≤ f + s2.p → k ≤ s2.p → s2.p ≤ n → s2.nl = s.nl → FT I I2 → PCs tp n w I2 s2 k → PC8 I2 s2 k → PIf w s2 k → (b = true → tlS tp n (n + 1) s (l16 s.nl) 0 = tlS tp n f s2 (l16 s.nl) k) → (b = false → tlS tp n (n + 1) s (l16 s.nl) 0 = (true, s2)) → (J E mX8_readTests (d + 7) Q 0 0 4 [some (.ref (eB E + 47)), some (.int (tf b)), some (.int (nI k))] [] h I2 L) := by
    intro f
    induction f with
    | zero => intro k I2 s2 b g1 g2 g3; omega
    | succ f ih =>
      intro k I2 s2 b g1 g2 g3 en f2 r2 r82 pi2 eb1 eb2
      refine w_X8_readTests_4 hs _ _ (br_f (show ¬ (500 : Int32) < nI k from nI_nlt (show k ≤ 500 by omega) (by decide)) ?_)
      cases b with
      | false =>
        refine br_t rfl ?_
        have e1 := eb2 rfl
        have el : lnT tp n s (l16 s.nl) = needS tp n s2 58 := by unfold lnT; rw [e1, if_neg (fun z => absurd (show true = false from z) (by decide))]
        rw [el] at h1 h0
        refine c_take hs n5 r2 g3 (fun I3 f3 c3 r3 => qi_i ⟨Or.inr rfl, h1 I3 k (FT.tr f2 f3) c3 r3 ?_ (by rw [need_e.1]; exact en)⟩) (fun I3 f3 c3 r3 => qi_i ⟨Or.inl rfl, h0 I3 (FT.tr f2 f3) c3 r3⟩)
        intro e
        rw [need_e.2.1] at e
        rw [need_e.1, need_e.2.2.2]
        exact pi2 e
      | true =>
        refine br_f (by decide) ?_
        have e1 := eb1 rfl
        refine c_adv hs n5 r2 g3 (fun I3 f3 e3 r3 => qv_i ?_)
        have hp3 : (adv tp n s2).p ≤ n := nxt_le g3
        have hg3 : s2.p ≤ (adv tp n s2).p := nxt_ge'
        have z := tsS_p (tp := tp) (l := l16 s.nl) (k := k) hp3
        have en3 : (adv tp n s2).nl = s.nl := en
        have pi3 : PIf w (adv tp n s2) k := pi2
        have ct := c_test (E := E) (d := d) (L := L) (h := h) (s := adv tp n s2) (Q := qi h L fun r9 I8 => (((r9 = 0) → Q (some (.int 0)) h I8 L) ∧ (¬ (r9 = 0) → (CT E mX8_isWord (d + 6) 0 0 [.ref (eB E + 47), .ref (eK E 13)] h I8 L (qi h L fun r12 I11 => J E mX8_readTests (d + 7) Q 0 0 4 [some (.ref (eB E + 47)), some (.int r12), some (.int (nI k + 1))] [] h I11 L))))) hs n5 r3 (fun e => by rw [e3]; exact r82 e) pi3 hp3
        rw [en3] at ct
        refine ct (fun I4 f4 r4 => qi_i ?_)
        have et : tlS tp n (f + 1) s2 (l16 s.nl) k = if (tsS tp n (adv tp n s2) (l16 s.nl) k).1 = false then tsS tp n (adv tp n s2) (l16 s.nl) k else if wdB tp n (tsS tp n (adv tp n s2) (l16 s.nl) k).2.p 13 = true then tlS tp n f (tsS tp n (adv tp n s2) (l16 s.nl) k).2 (l16 s.nl) (k + 1) else tsS tp n (adv tp n s2) (l16 s.nl) k := rfl
        rw [et] at e1
        by_cases c2 : (tsS tp n (adv tp n s2) (l16 s.nl) k).1 = false
        · rw [if_pos c2] at e1
          have el : lnT tp n s (l16 s.nl) = tsS tp n (adv tp n s2) (l16 s.nl) k := by unfold lnT; rw [e1, if_pos c2]
          rw [el] at h0
          rw [c2]
          exact br_t rfl (h0 I4 (FT.tr f2 (FT.tr f3 f4)) c2 (r4.2 c2))
        · rw [if_neg c2] at e1
          have c3 : (tsS tp n (adv tp n s2) (l16 s.nl) k).1 = true := by simpa using c2
          obtain ⟨r5, r85⟩ := r4.1 c3
          have zz := ts_PI (tp := tp) (n := n) (s := adv tp n s2) pi3
          rw [en3] at zz
          obtain ⟨pi5, en5⟩ := zz c3
          rw [c3]
          refine br_f (by decide) ?_
          refine c_isWord hs n5 (by decide) z.2 r5.2.2.2.2.2 r5.1 (qi_i ?_)
          rw [nI_1]
          have mv : s2.p < (adv tp n s2).p := by
            apply Classical.byContradiction
            intro hn
            have e5 : (adv tp n s2).p = s2.p := by omega
            have k0 : knd tp n s2.p = 0 := Classical.byContradiction fun z => by
              have := nxt_mv z
              rw [adv_p] at e5; omega
            exact absurd c3 (by rw [ts_end (by rw [e5]; exact k0)]; decide)
          by_cases c4 : wdB tp n (tsS tp n (adv tp n s2) (l16 s.nl) k).2.p 13 = true
          · rw [if_pos c4] at e1
            rw [c4]
            exact ih (k + 1) I4 _ true (by omega) (by omega) z.2 en5 (FT.tr f2 (FT.tr f3 f4)) r5 r85 pi5 (fun _ => e1) (fun q => absurd q (by decide))
          · rw [if_neg c4] at e1
            have c5 : wdB tp n (tsS tp n (adv tp n s2) (l16 s.nl) k).2.p 13 = false := by simpa using c4
            rw [c5]
            exact ih (k + 1) I4 _ false (by omega) (by omega) z.2 en5 (FT.tr f2 (FT.tr f3 f4)) r5 r85 pi5 (fun q => absurd q (by decide)) (fun _ => by rw [e1]; exact Prod.ext c3 rfl)
  exact w_X8_readTests hs (K (n + 1) 0 I s true (by omega) (by omega) hp rfl FT.rf r r8 pi (fun _ => rfl) (fun q => absurd q (by decide)))
theorem c_line (hs : SL h) (n5 : n ≤ 500) (r : PCs tp n w I s 0) (po : POf w s) (hp : s.p ≤ n) (hQ : ∀ I', FT I I' → ((lnS tp n s w).1 = true → PCs tp n w I' (lnS tp n s w).2 0) → ((lnS tp n s w).1 = false → PCf tp n I' (lnS tp n s w).2) → Q (some (.int (tf (lnS tp n s w).1))) h I' L) : (CT E mX8_readLine (d + 8) 0 0 [.ref (eB E + 47)] h I L Q) := by
  have e0 := ln0_p (tp := tp) (n := n) (s := s)
  have en0 := ln0_nl (tp := tp) (n := n) (s := s)
  have hp0 : (ln0 tp n s).p ≤ n := by rw [e0]; exact hp
  have pi0 := ln0_PI (tp := tp) (n := n) po
  have act : ∀ {I' : mI} {s' : PS} {m : Nat}, FT I I' → PCs tp n w I' s' m → PIf w s' m → s'.p ≤ n → s'.nl = s.nl → lnS tp n s w = acS tp n s' w (l16 s.nl) → (CT E mX8_readAct (d + 7) 0 0 [.ref (eB E + 47)] h I' L (qi h L fun r5 I4 => (((r5 = 0) → Q (some (.int 0)) h I4 L) ∧ (¬ (r5 = 0) → (CT E mX8_takeSign (d + 7) 0 0 [.ref (eB E + 47), .int 59] h I4 L (qi h L fun r8 I7 => Q (some (.int (bI (¬ (r8 = 0))))) h I7 L)))))) := by
    intro I' s' m f' r' pi' hp' en e
    rw [e, acS_T, ← en] at hQ
    have az := acS_p (tp := tp) (w := w) (l := l16 s'.nl) hp'
    refine c_readAct hs n5 r' pi' hp' (fun I2 f2 c2 r2 => qi_i (br_f (by decide) ?_)) (fun I2 f2 c2 r2 => qi_i (br_t rfl ?_))
    · rw [if_neg (show ¬ (acT tp n s' w (l16 s'.nl)).1 = false by rw [c2]; decide)] at hQ
      have hp2 : (acT tp n s' w (l16 s'.nl)).2.p ≤ n := by
        rw [acS_T, if_neg (show ¬ (acT tp n s' w (l16 s'.nl)).1 = false by rw [c2]; decide)] at az
        have : (acT tp n s' w (l16 s'.nl)).2.p ≤ (needS tp n (acT tp n s' w (l16 s'.nl)).2 59).2.p := by
          unfold needS
          split
          · exact nxt_ge'
          · exact Nat.le_refl _
        exact Nat.le_trans this az.2.1
      refine c_take hs n5 r2 hp2 (fun I3 f3 c3 r3 => qi_i ?_) (fun I3 f3 c3 r3 => qi_i ?_)
      · have q := hQ I3 (FT.tr f' (FT.tr f2 f3)) (fun _ => r3) (fun z => absurd (c3.symm.trans z) (by decide))
        rw [c3] at q
        rw [bI_t (show ¬ (1 : Int32) = 0 by decide)]; exact q
      · have q := hQ I3 (FT.tr f' (FT.tr f2 f3)) (fun z => absurd (c3.symm.trans z) (by decide)) (fun _ => r3)
        rw [c3] at q
        rw [bI_f (show ¬ ¬ (0 : Int32) = 0 by decide)]; exact q
    · rw [if_pos c2] at hQ
      have q := hQ I2 (FT.tr f' f2) (fun z => absurd (c2.symm.trans z) (by decide)) (fun _ => r2)
      rw [c2] at q; exact q
  have p19 : ∀ {I' : mI}, FT I I' → PCs tp n w I' (ln0 tp n s) 0 → PC8 I' (ln0 tp n s) 0 → (J E mX8_readLine (d + 8) Q 0 0 19 [some (.ref (eB E + 47))] [] h I' L) := by
    intro I' f' r' r8'
    refine w_X8_readLine_19 hs (c_isWord hs n5 (by decide) hp0 r'.2.2.2.2.2 r'.1 (qi_i ⟨fun c => ?_, fun c => ?_⟩))
    · rw [tf_z] at c
      exact act f' r' pi0 hp0 en0 (by unfold lnS; rw [if_neg c])
    · rw [tf_z, Classical.not_not] at c
      have el : lnS tp n s w = ln1 tp n (tlS tp n (n + 1) (ln0 tp n s) (l16 s.nl) 0) w (l16 s.nl) := by unfold lnS; rw [if_pos c]
      rw [ln1_T] at el
      have z := tlS_p (tp := tp) (n := n) (f := n + 1) (s := ln0 tp n s) (l := l16 s.nl) (k := 0) hp0
      have ct := c_readTests (E := E) (d := d) (L := L) (h := h) (Q := qi h L fun r11 I10 => (((r11 = 0) → Q (some (.int 0)) h I10 L) ∧ (¬ (r11 = 0) → (CT E mX8_readAct (d + 7) 0 0 [.ref (eB E + 47)] h I10 L (qi h L fun r14 I13 => (((r14 = 0) → Q (some (.int 0)) h I13 L) ∧ (¬ (r14 = 0) → (CT E mX8_takeSign (d + 7) 0 0 [.ref (eB E + 47), .int 59] h I13 L (qi h L fun r17 I16 => Q (some (.int (bI (¬ (r17 = 0))))) h I16 L))))))))) hs n5 r' r8' pi0 hp0
      rw [en0] at ct
      refine ct (fun I2 m f2 c2 r2 pi2 en2 => qi_i (br_f (by decide) ?_)) (fun I2 f2 c2 r2 => qi_i (br_t rfl ?_))
      · rw [if_neg (show ¬ (lnT tp n (ln0 tp n s) (l16 s.nl)).1 = false by rw [c2]; decide)] at el
        have hp2 : (lnT tp n (ln0 tp n s) (l16 s.nl)).2.p ≤ n := by
          unfold lnT
          split
          · exact z.2
          · exact (needS_p z.2).2.1
        exact act (FT.tr f' f2) r2 pi2 hp2 en2 el
      · rw [if_pos c2] at el
        rw [el] at hQ
        have q := hQ I2 (FT.tr f' f2) (fun z => absurd (c2.symm.trans z) (by decide)) (fun _ => r2)
        rw [c2] at q; exact q
  have tk8 : ∀ {I' : mI} {s' : PS}, PCs tp n w I' s' 0 → PCs tp n w (uI I' 47 8 0) s' 0 := by
    intro I' s' r'
    obtain ⟨t, r1, r2, r3, r4, r5⟩ := r'
    refine ⟨t.cg fun j hj => by rw [uI_nj (by omega)], by rw [uI_nj (by decide)]; exact r1, fun e => (r2 e).cg (fun b _ _ => uI_ne (by omega)) (fun j hj => uI_nj (by omega)), fun e => ?_, by rw [uI_ne (by decide)]; exact r4, by rw [uI_ne (by decide)]; exact r5⟩
    rw [uI_nj (by decide), uI_nj (by decide)]; exact r3 e
  have to0 : ∀ {I' : mI} {s' : PS}, ln0 tp n s = setA s' 127 (l16 s.nl) 0 → s'.nl = s.nl → (s'.lf = 0 → s.nl < 16) → PCs tp n w I' s' 0 → PCs tp n w I' (ln0 tp n s) 0 := by
    intro I' s' e en hlt r'
    obtain ⟨t, r1, r2, r3, r4, r5⟩ := r'
    rw [e]
    refine ⟨t, r1, fun e2 => ?_, r3, r4, r5⟩
    have e2 : s'.lf = 0 := e2
    have n16 := hlt e2
    show Dr0 I' s'.nl (uI s'.a 127 (l16 s.nl) 0) 0
    rw [l16_lt n16]
    obtain ⟨d1, d2, d3, d4⟩ := r2 e2
    rw [en] at d1 d2 d3 d4
    rw [en]
    have ef : ∀ l, l ≤ s.nl → ftS (uI s'.a 127 s.nl 0) l = ftS s'.a l := fun l hl => ftS_cg fun i hi => by rw [uI_nj (by omega)]
    refine ⟨by rw [ef _ (Nat.le_refl _)]; exact d1, fun l hl => by rw [ef l hl]; exact d2 l hl, fun l hl => ?_, fun l j hh => ?_⟩
    · rw [uI_ne (by decide), uI_ne (by decide)]; exact d3 l hl
    · rcases hh with hh | hh
      · have et : tcA (uI s'.a 127 s.nl 0) l = tcA s'.a l := by unfold tcA; rw [uI_nj (Nat.ne_of_lt hh.1)]
        rw [et] at hh
        have q := d4 l j (Or.inl hh)
        rw [ef l (Nat.le_of_lt hh.1)]
        unfold TWc at q ⊢
        simp (disch := decide) only [uI_ne]
        exact q
      · omega
  have r8 := tk8 r
  refine w_X8_readLine hs ?_
  by_cases c : s.lf = 0
  · have n16 := (po c).1
    have d2 := (r.2.2.1 c).1.2.2.1
    rw [d2]
    by_cases c16 : s.nl = 16
    · refine br_f (show ¬ nI s.nl < 16 by rw [c16]; decide) ?_
      refine c_note hs (f := 3) (by decide) r8 (fun I' f' e' r' => qv_i (p19 (FT.tr FT.u f') (to0 (s' := ltr tp n s 3) (by unfold ln0; rw [if_pos c16]) ltr_nl (fun e => ((ltr_lf (by decide)).mp e).elim) r') (fun e => by rw [e', uI_eq]; rfl)))
    · refine br_t (show nI s.nl < 16 from nI_lt (show s.nl < 16 by omega) (by decide)) (p19 FT.u (to0 (s' := s) (by unfold ln0; rw [if_neg c16]) rfl (fun _ => by omega) r8) (fun e => by rw [uI_eq]; rfl))
  · have el : ltr tp n s 3 = s := by unfold ltr; rw [if_neg c]
    have ex : ln0 tp n s = setA s 127 (l16 s.nl) 0 := by
      unfold ln0
      rw [el]
      split <;> rfl
    refine ⟨fun _ => p19 FT.u (to0 (s' := s) ex rfl (fun e => absurd e c) r8) (fun e => by rw [uI_eq]; rfl), fun _ => ?_⟩
    refine c_note hs (f := 3) (by decide) r8 (fun I' f' e' r' => qv_i (p19 (FT.tr FT.u f') (to0 (s' := s) ex rfl (fun e => absurd e c) (by rw [el] at r'; exact r')) (fun e => by rw [e', uI_eq]; rfl)))
end PE
