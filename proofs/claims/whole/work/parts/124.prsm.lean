/-! texts: the reference reads -/
def tf (b : Bool) : Int32 := if b = true then 1 else 0
def FM2 (I I' : mI) : Prop := ∀ a, a ≠ 83 → a < 127 ∨ 132 < a → I' a = I a
theorem FM2.rf {I : mI} : FM2 I I := fun _ _ _ => rfl
theorem FM2.tr {I J K : mI} (h : FM2 I J) (k : FM2 J K) : FM2 I K := fun a h1 h2 => (k a h1 h2).trans (h a h1 h2)
theorem FM2.u {I : mI} {a i : Nat} {x : Int32} (h : a = 83 ∨ (127 ≤ a ∧ a ≤ 132) := by omega) : FM2 I (uI I a i x) := fun b h1 h2 => uI_ne (by omega)
theorem F83.m2 {I I' : mI} (f : F83 I I') : FM2 I I' := fun a h1 _ => f.1 a h1
section PMs
variable (tp : Nat → Int32) (n : Nat)
def PMs (I : mI) (L : mL) (s : PS) : Prop := TkM tp n I L s.p ∧ I 83 52 = s.lf ∧ (¬ s.lf = 0 → I 83 53 = s.lp) ∧ I 83 54 = nI s.nl ∧ (∀ a, 127 ≤ a → a ≤ 132 → I a = s.a a) ∧ I 83 46 = nI n ∧ ∀ i, i < n → I 84 i = tp i
def PMb (I : mI) (L : mL) (r : Bool × PS) : Prop := (r.1 = true → PMs tp n I L r.2) ∧ (r.1 = false → I 83 51 = nI (plc tp n r.2.p))
variable {tp n} {E : Envt} {d : Nat} {Q : Pst} {h : mS} {I : mI} {L : mL} {s : PS}
theorem TkM.cg {I I' : mI} {p : Nat} (t : TkM tp n I L p) (e : ∀ j, j = 47 ∨ j = 45 ∨ j = 48 ∨ j = 49 → I' 83 j = I 83 j) : TkM tp n I' L p := by
  unfold TkM at t ⊢
  rw [e 47 (by omega), e 45 (by omega), e 48 (by omega), e 49 (by omega)]
  exact t
theorem PMb.t {I : mI} {s : PS} (r : PMs tp n I L s) : PMb tp n I L (true, s) := ⟨fun _ => r, fun e => absurd (show true = false from e) (by decide)⟩
theorem PMb.f {I : mI} {s : PS} (r : I 83 51 = nI (plc tp n s.p)) : PMb tp n I L (false, s) := ⟨fun e => absurd (show false = true from e) (by decide), fun _ => r⟩
theorem m_adv (hs : SL h) (tb : ∀ i, i < n → byt (tp i)) (n5 : n ≤ 500) (r : PMs tp n I L s) (hp : s.p ≤ n) (hQ : ∀ I' L', FM2 I I' → PMs tp n I' L' (adv tp n s) → Q none h I' L') : (CT E mX12_token (d + 1) 0 0 [.ref (eB E + 83)] h I L Q) := by
  obtain ⟨t, r1, r2, r3, r4, r5, r6⟩ := r
  refine m_token (p := nxt tp n s.p) hs tb n5 (nxt_le hp) r5 r6 t.2.1 (fun I' L' f t' => hQ I' L' f.m2 ⟨t', ?_, ?_, ?_, ?_, ?_, ?_⟩)
  · rw [f.2 52 (by decide) (by decide) (by decide) (by decide)]; exact r1
  · rw [f.2 53 (by decide) (by decide) (by decide) (by decide)]; exact r2
  · rw [f.2 54 (by decide) (by decide) (by decide) (by decide)]; exact r3
  · intro a h1 h2; rw [f.1 a (by omega)]; exact r4 a h1 h2
  · rw [f.2 46 (by decide) (by decide) (by decide) (by decide)]; exact r5
  · intro i hi; rw [f.1 84 (by decide)]; exact r6 i hi
theorem PMs.setA {a i : Nat} {x : Int32} (r : PMs tp n I L s) (h1 : 127 ≤ a) (h2 : a ≤ 132) : PMs tp n (uI I a i x) L (setA s a i x) := by
  obtain ⟨t, r1, r2, r3, r4, r5, r6⟩ := r
  refine ⟨t.cg fun j _ => by rw [uI_ne (by omega)], ?_, ?_, ?_, fun b g1 g2 => ?_, ?_, fun k hk => ?_⟩
  · rw [uI_ne (by omega)]; exact r1
  · rw [uI_ne (by omega)]; exact r2
  · rw [uI_ne (by omega)]; exact r3
  · show uI I a i x b = uI s.a a i x b
    by_cases e : b = a
    · subst e; rw [uI_at, uI_at, r4 b g1 g2]
    · rw [uI_ne e, uI_ne e]; exact r4 b g1 g2
  · rw [uI_ne (by omega)]; exact r5
  · rw [uI_ne (by omega)]; exact r6 k hk
theorem PMs.incL (r : PMs tp n I L s) : PMs tp n (uI I 83 54 (I 83 54 + 1)) L (incL s) := by
  obtain ⟨t, r1, r2, r3, r4, r5, r6⟩ := r
  refine ⟨t.cg fun j hj => by rw [uI_nj (by omega)], ?_, ?_, ?_, fun b g1 g2 => ?_, ?_, fun k hk => ?_⟩
  · rw [uI_nj (by decide)]; exact r1
  · rw [uI_nj (by decide)]; exact r2
  · rw [uI_eq, r3, nI_1]; rfl
  · rw [uI_ne (by omega)]; exact r4 b g1 g2
  · rw [uI_nj (by decide)]; exact r5
  · rw [uI_ne (by decide)]; exact r6 k hk
theorem m_later (hs : SL h) {f : Int32} (hf : ¬ f = 0) (r : PMs tp n I L s) (hQ : ∀ I', FM2 I I' → PMs tp n I' L (ltr tp n s f) → Q none h I' L) : (CT E mX12_later d 0 0 [.ref (eB E + 83), .int f, .int (I 83 47)] h I L Q) := by
  have r0 := r
  obtain ⟨t, r1, r2, r3, r4, r5, r6⟩ := r
  refine w_X12_later hs _ _ ?_
  rw [r1]
  refine br_c (fun c => ?_) (fun c => ?_)
  · have e : ltr tp n s f = ⟨s.p, f, nI (plc tp n s.p), s.nl, s.a⟩ := by unfold ltr; rw [if_pos c]
    rw [e] at hQ
    refine hQ _ (FM2.tr FM2.u FM2.u) ⟨t.cg fun j hj => by rw [uI_nj (by omega), uI_nj (by omega)], ?_, fun _ => ?_, ?_, fun b g1 g2 => ?_, ?_, fun k hk => ?_⟩
    · rw [uI_nj (by decide), uI_eq]; rfl
    · rw [uI_eq]; exact t.1
    · rw [uI_nj (by decide), uI_nj (by decide)]; exact r3
    · rw [uI_ne (by omega), uI_ne (by omega)]; exact r4 b g1 g2
    · rw [uI_nj (by decide), uI_nj (by decide)]; exact r5
    · rw [uI_ne (by decide), uI_ne (by decide)]; exact r6 k hk
  · have e : ltr tp n s f = s := by unfold ltr; rw [if_neg c]
    rw [e] at hQ
    exact hQ I FM2.rf r0
theorem m_wrong (hs : SL h) (t : I 83 47 = nI (plc tp n s.p)) (hQ : ∀ I', FM2 I I' → PMb tp n I' L (false, s) → Q (some (.int 0)) h I' L) : (CT E mX12_wrong d 0 0 [.ref (eB E + 83)] h I L Q) :=
  w_X12_wrong hs (hQ _ FM2.u (PMb.f (by rw [uI_eq]; exact t)))
theorem m_need (hs : SL h) (tb : ∀ i, i < n → byt (tp i)) (n5 : n ≤ 500) {c : Int32} (r : PMs tp n I L s) (hp : s.p ≤ n) (hQ : ∀ I' L', FM2 I I' → PMb tp n I' L' (needS tp n s c) → Q (some (.int (tf (needS tp n s c).1))) h I' L') : (CT E mX12_need (d + 2) 0 0 [.ref (eB E + 83), .int c] h I L Q) := by
  have t := r.1
  have no : ¬ (knd tp n s.p = 3 ∧ tp (plc tp n s.p) = c) → CT E mX12_wrong (d + 1) 0 0 [.ref (eB E + 83)] h I L (qi h L fun r I' => (bz r ∧ Q (some (.int r)) h I' L)) := fun hn => by
    have e : needS tp n s c = (false, s) := by unfold needS; rw [if_neg hn]
    rw [e] at hQ
    exact m_wrong (tp := tp) (n := n) (s := s) hs t.1 (fun I' f' r' => qi_i ⟨Or.inl rfl, hQ I' L f' r'⟩)
  refine w_X12_need hs _ ?_
  rw [t.2.2.1]
  by_cases c3 : knd tp n s.p = 3
  · refine br_t ((sM_i (knd_c _)).2.2.1.mpr c3) ?_
    rw [t.2.2.2.2.1 c3]
    refine br_c (fun c1 => ?_) (fun c1 => no fun e => c1 e.2)
    have e : needS tp n s c = (true, adv tp n s) := by unfold needS; rw [if_pos ⟨c3, c1⟩]
    rw [e] at hQ
    exact m_adv hs tb n5 r hp (fun I' L' f' r' => qvL_i (hQ I' L' f' (PMb.t r')))
  · exact br_f (fun e => c3 ((sM_i (knd_c _)).2.2.1.mp e)) (no fun e => c3 e.1)
theorem m_sbj (r : TkM tp n I L s.p) (hs : SL h) (hQ : Q (some (.int (sbj tp n s.p))) h I L) : (CT E mX12_testWord (d + 1) 0 0 [.ref (eB E + 83)] h I L Q) := by
  refine w_X12_testWord hs ?_
  simp only [m_wd (k := 2) r (by decide) (C := 1668047214) (by decide), m_wd (k := 3) r (by decide) (C := 1752132965) (by decide), m_wd (k := 4) r (by decide) (C := 1717925220) (by decide), m_wd (k := 5) r (by decide) (C := 512869298039) (by decide), m_wd (k := 6) r (by decide) (C := 435610215794) (by decide), m_wd (k := 7) r (by decide) (C := 1937006962) (by decide), m_wd (k := 8) r (by decide) (C := 7039342) (by decide), m_wd (k := 9) r (by decide) (C := 6383461) (by decide), m_wd (k := 10) r (by decide) (C := 422826304613) (by decide), m_wd (k := 11) r (by decide) (C := 6775152) (by decide), m_wd (k := 12) r (by decide) (C := 1919509352) (by decide)]
  rintro y16 rfl y36 rfl
  have e : ∀ a b c d e f g h i j k : Bool, (if (if a = true then 0 else if b = true then 1 else if c = true then 2 else if d = true then 3 else if e = true then 4 else (-1) : Int32) = (-1) then if f = true then 5 else if g = true then 6 else if h = true then 7 else if i = true then 8 else if j = true then 9 else if k = true then 10 else (-1) else (if a = true then 0 else if b = true then 1 else if c = true then 2 else if d = true then 3 else if e = true then 4 else (-1) : Int32)) = (if a = true then 0 else if b = true then 1 else if c = true then 2 else if d = true then 3 else if e = true then 4 else if f = true then 5 else if g = true then 6 else if h = true then 7 else if i = true then 8 else if j = true then 9 else if k = true then 10 else (-1) : Int32) := by
    intro a b c d e f g h i j k
    cases a
    · cases b
      · cases c
        · cases d
          · cases e
            · rfl
            · rfl
          · rfl
        · rfl
      · rfl
    · rfl
  rw [e]
  exact hQ
theorem m_act (r : TkM tp n I L s.p) (hs : SL h) {w : Int32} (hQ : Q (some (.int (actA tp n w s.p))) h I L) : (CT E mX12_actWord (d + 1) 0 0 [.ref (eB E + 83), .int w] h I L Q) := by
  refine w_X12_actWord hs _ ?_
  simp only [m_wd (k := 16) r (by decide) (C := 6447474) (by decide), m_wd (k := 17) r (by decide) (C := 1734960756) (by decide), m_wd (k := 18) r (by decide) (C := 1650549611) (by decide), m_wd (k := 14) r (by decide) (C := 1836020325) (by decide), m_wd (k := 15) r (by decide) (C := 1818588019) (by decide)]
  unfold actA at hQ
  refine br_c (fun c => ?_) (fun c => ?_)
  · rw [if_pos c] at hQ
    rintro y rfl
    exact hQ
  · rw [if_neg c] at hQ
    rintro y rfl
    exact hQ
end PMs
