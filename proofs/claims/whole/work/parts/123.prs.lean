/-! texts: what is read -/
def l16 (k : Nat) : Nat := if 16 ≤ k then 16 else k
abbrev PS : Type := Nat × Int32 × Int32 × Nat × mI
def PS.p (s : PS) : Nat := s.1
def PS.lf (s : PS) : Int32 := s.2.1
def PS.lp (s : PS) : Int32 := s.2.2.1
def PS.nl (s : PS) : Nat := s.2.2.2.1
def PS.a (s : PS) : mI := s.2.2.2.2
section PP
variable (tp : Nat → Int32) (n : Nat)
def sbj (p : Nat) : Int32 := if wdB tp n p 2 = true then 0 else if wdB tp n p 3 = true then 1 else if wdB tp n p 4 = true then 2 else if wdB tp n p 5 = true then 3 else if wdB tp n p 6 = true then 4 else if wdB tp n p 7 = true then 5 else if wdB tp n p 8 = true then 6 else if wdB tp n p 9 = true then 7 else if wdB tp n p 10 = true then 8 else if wdB tp n p 11 = true then 9 else if wdB tp n p 12 = true then 10 else (-1)
def actA (w : Int32) (p : Nat) : Int32 := if w = 0 then (if wdB tp n p 16 = true then 0 else if wdB tp n p 17 = true then 1 else if wdB tp n p 18 = true then 2 else (-1)) else (if wdB tp n p 14 = true then 3 else if wdB tp n p 15 = true then 4 else (-1))
def ltr (s : PS) (f : Int32) : PS := if s.lf = 0 then ⟨s.p, f, nI (plc tp n s.p), s.nl, s.a⟩ else s
def adv (s : PS) : PS := ⟨nxt tp n s.p, s.lf, s.lp, s.nl, s.a⟩
def setA (s : PS) (a i : Nat) (x : Int32) : PS := ⟨s.p, s.lf, s.lp, s.nl, uI s.a a i x⟩
def sgT (p : Nat) : Bool := decide (knd tp n p = 3) && (decide (tp (plc tp n p) = 60) || decide (tp (plc tp n p) = 62) || decide (tp (plc tp n p) = 61))
def stT (s : PS) (l k : Nat) (w sg th : Int32) : PS := if k < 4 ∧ l < 16 then ⟨s.p, s.lf, s.lp, s.nl, uI (uI (uI (uI s.a 130 (4 * l + k) w) 131 (4 * l + k) sg) 132 (4 * l + k) th) 127 l (nI k + 1)⟩ else s
def ts0 (s : PS) (k : Nat) : PS := if k = 4 then ltr tp n s 3 else s
def ts1 (s : PS) : PS := if wdB tp n s.p 1 = true then adv tp n s else s
/-- behind "not": s with n0 whether it stood there -/
def ts2 (s : PS) (l k : Nat) (n0 : Bool) : Bool × PS :=
  if sbj tp n s.p = (-1) then (false, s)
  else if sbj tp n s.p ≤ 4 then (true, stT (adv tp n s) l k (if n0 = true then sbj tp n s.p + 16 else sbj tp n s.p) 61 1)
  else if ¬ sgT tp n (adv tp n s).p = true then (false, adv tp n s)
  else if ¬ knd tp n (adv tp n (adv tp n s)).p = 2 then (false, adv tp n (adv tp n s))
  else (true, stT (adv tp n (adv tp n (adv tp n s))) l k (if n0 = true then sbj tp n s.p + 16 else sbj tp n s.p) (tp (plc tp n (adv tp n s).p)) (wor tp n (adv tp n (adv tp n s)).p))
def tsS (s : PS) (l k : Nat) : Bool × PS := ts2 tp n (ts1 tp n (ts0 tp n s k)) l k (wdB tp n (ts0 tp n s k).p 1)
def tlS : Nat → PS → Nat → Nat → Bool × PS
  | 0, s, _, _ => (false, s)
  | f + 1, s, l, k => if (tsS tp n (adv tp n s) l k).1 = false then tsS tp n (adv tp n s) l k else if wdB tp n (tsS tp n (adv tp n s) l k).2.p 13 = true then tlS f (tsS tp n (adv tp n s) l k).2 l (k + 1) else tsS tp n (adv tp n s) l k
def needS (s : PS) (c : Int32) : Bool × PS := if knd tp n s.p = 3 ∧ tp (plc tp n s.p) = c then (true, adv tp n s) else (false, s)
def incL (s : PS) : PS := ⟨s.p, s.lf, s.lp, s.nl + 1, s.a⟩
/-- the act's token is gone, w is the act -/
def ac2 (s : PS) (w : Int32) (l : Nat) : Bool × PS :=
  if w = 0 then needS tp n (incL (setA s 129 l 0)) 59
  else if ¬ knd tp n s.p = 2 then (false, setA s 129 l 0)
  else needS tp n (incL (adv tp n (setA (if w = 2 ∧ ¬ wor tp n s.p ≤ 100 then ltr tp n (setA s 129 l 0) 2 else setA s 129 l 0) 129 l (wor tp n s.p)))) 59
def acS (s : PS) (w : Int32) (l : Nat) : Bool × PS :=
  if actA tp n w s.p = (-1) then (false, setA s 128 l (-1)) else ac2 tp n (adv tp n (setA s 128 l (actA tp n w s.p))) (actA tp n w s.p) l
def ln0 (s : PS) : PS := setA (if s.nl = 16 then ltr tp n s 3 else s) 127 (l16 s.nl) 0
def ln1 (r : Bool × PS) (w : Int32) (l : Nat) : Bool × PS := if r.1 = false then r else if (needS tp n r.2 58).1 = false then needS tp n r.2 58 else acS tp n (needS tp n r.2 58).2 w l
def lnS (s : PS) (w : Int32) : Bool × PS :=
  if wdB tp n (ln0 tp n s).p 0 = true then ln1 tp n (tlS tp n (n + 1) (ln0 tp n s) (l16 s.nl) 0) w (l16 s.nl) else acS tp n (ln0 tp n s) w (l16 s.nl)
def txS : Nat → PS → Int32 → Bool × PS
  | 0, s, _ => (false, s)
  | f + 1, s, w => if knd tp n s.p = 0 then (true, s) else if (lnS tp n s w).1 = false then lnS tp n s w else txS f (lnS tp n s w).2 w
variable {tp n}
theorem ltr_p {s : PS} {f : Int32} : (ltr tp n s f).p = s.p := by unfold ltr; split <;> rfl
theorem ltr_nl {s : PS} {f : Int32} : (ltr tp n s f).nl = s.nl := by unfold ltr; split <;> rfl
theorem ltr_a {s : PS} {f : Int32} : (ltr tp n s f).a = s.a := by unfold ltr; split <;> rfl
theorem stT_p {s : PS} {l k : Nat} {w g t : Int32} : (stT s l k w g t).p = s.p := by unfold stT; split <;> rfl
theorem stT_nl {s : PS} {l k : Nat} {w g t : Int32} : (stT s l k w g t).nl = s.nl := by unfold stT; split <;> rfl
theorem stT_lf {s : PS} {l k : Nat} {w g t : Int32} : (stT s l k w g t).lf = s.lf ∧ (stT s l k w g t).lp = s.lp := by unfold stT; split <;> exact ⟨rfl, rfl⟩
theorem ts0_p {s : PS} {k : Nat} : (ts0 tp n s k).p = s.p := by unfold ts0; split <;> first | exact ltr_p | rfl
theorem adv_p {s : PS} : (adv tp n s).p = nxt tp n s.p := rfl
theorem nxt_ge' {p : Nat} : p ≤ nxt tp n p := Nat.le_trans plc_ge nxt_ge
theorem ts2_p {s : PS} {l k : Nat} {b : Bool} (h : s.p ≤ n) : s.p ≤ (ts2 tp n s l k b).2.p ∧ (ts2 tp n s l k b).2.p ≤ n := by
  have a1 := nxt_ge' (tp := tp) (n := n) (p := s.p)
  have a2 := nxt_ge' (tp := tp) (n := n) (p := nxt tp n s.p)
  have a3 := nxt_ge' (tp := tp) (n := n) (p := nxt tp n (nxt tp n s.p))
  have b1 := nxt_le (tp := tp) h
  have b2 := nxt_le (tp := tp) b1
  have b3 := nxt_le (tp := tp) b2
  unfold ts2
  split
  · exact ⟨Nat.le_refl _, h⟩
  · split
    · rw [stT_p]; exact ⟨a1, b1⟩
    · split
      · exact ⟨a1, b1⟩
      · split
        · exact ⟨Nat.le_trans a1 a2, b2⟩
        · rw [stT_p]; exact ⟨Nat.le_trans a1 (Nat.le_trans a2 a3), b3⟩
theorem tsS_p {s : PS} {l k : Nat} (h : s.p ≤ n) : s.p ≤ (tsS tp n s l k).2.p ∧ (tsS tp n s l k).2.p ≤ n := by
  unfold tsS
  have h0 : (ts0 tp n s k).p = s.p := ts0_p
  have h1 : s.p ≤ (ts1 tp n (ts0 tp n s k)).p ∧ (ts1 tp n (ts0 tp n s k)).p ≤ n := by
    unfold ts1
    split
    · rw [adv_p, h0]; exact ⟨nxt_ge', nxt_le h⟩
    · rw [h0]; exact ⟨Nat.le_refl _, h⟩
  have h2 := ts2_p (tp := tp) (l := l) (k := k) (b := wdB tp n (ts0 tp n s k).p 1) h1.2
  exact ⟨Nat.le_trans h1.1 h2.1, h2.2⟩
theorem tlS_p : ∀ {f : Nat} {s : PS} {l k : Nat}, s.p ≤ n → s.p ≤ (tlS tp n f s l k).2.p ∧ (tlS tp n f s l k).2.p ≤ n
  | 0, s, l, k, h => ⟨Nat.le_refl _, h⟩
  | f + 1, s, l, k, h => by
    have h1 := tsS_p (tp := tp) (l := l) (k := k) (show (adv tp n s).p ≤ n from nxt_le h)
    have h0 : s.p ≤ (adv tp n s).p := nxt_ge'
    rw [tlS]
    split
    · exact ⟨Nat.le_trans h0 h1.1, h1.2⟩
    · split
      · have h2 := tlS_p (f := f) (l := l) (k := k + 1) h1.2
        exact ⟨Nat.le_trans h0 (Nat.le_trans h1.1 h2.1), h2.2⟩
      · exact ⟨Nat.le_trans h0 h1.1, h1.2⟩
theorem needS_p {s : PS} {c : Int32} (h : s.p ≤ n) : s.p ≤ (needS tp n s c).2.p ∧ (needS tp n s c).2.p ≤ n ∧ ((needS tp n s c).1 = true → s.p < (needS tp n s c).2.p) := by
  unfold needS
  split
  · rename_i c1
    exact ⟨nxt_ge', nxt_le h, fun _ => nxt_mv (by rw [c1.1]; decide)⟩
  · exact ⟨Nat.le_refl _, h, fun e => absurd (show false = true from e) (by decide)⟩
theorem ac2_p {s : PS} {w : Int32} {l : Nat} (h : s.p ≤ n) : s.p ≤ (ac2 tp n s w l).2.p ∧ (ac2 tp n s w l).2.p ≤ n ∧ ((ac2 tp n s w l).1 = true → s.p < (ac2 tp n s w l).2.p) := by
  unfold ac2
  split
  · exact needS_p (s := incL (setA s 129 l 0)) h
  · split
    · exact ⟨Nat.le_refl _, h, fun e => absurd (show false = true from e) (by decide)⟩
    · have e : (incL (adv tp n (setA (if w = 2 ∧ ¬ wor tp n s.p ≤ 100 then ltr tp n (setA s 129 l 0) 2 else setA s 129 l 0) 129 l (wor tp n s.p)))).p = nxt tp n s.p := by
        show nxt tp n (if w = 2 ∧ ¬ wor tp n s.p ≤ 100 then ltr tp n (setA s 129 l 0) 2 else setA s 129 l 0).p = _
        split
        · rw [ltr_p]; rfl
        · rfl
      have z := needS_p (tp := tp) (c := 59) (s := incL (adv tp n (setA (if w = 2 ∧ ¬ wor tp n s.p ≤ 100 then ltr tp n (setA s 129 l 0) 2 else setA s 129 l 0) 129 l (wor tp n s.p)))) (by rw [e]; exact nxt_le h)
      have g := nxt_ge' (tp := tp) (n := n) (p := s.p)
      rw [e] at z
      exact ⟨Nat.le_trans g z.1, z.2.1, fun q => Nat.lt_of_le_of_lt g (z.2.2 q)⟩
theorem acS_p {s : PS} {w : Int32} {l : Nat} (h : s.p ≤ n) : s.p ≤ (acS tp n s w l).2.p ∧ (acS tp n s w l).2.p ≤ n ∧ ((acS tp n s w l).1 = true → s.p < (acS tp n s w l).2.p) := by
  unfold acS
  split
  · exact ⟨Nat.le_refl _, h, fun e => absurd (show false = true from e) (by decide)⟩
  · have z := ac2_p (tp := tp) (w := actA tp n w s.p) (l := l) (s := adv tp n (setA s 128 l (actA tp n w s.p))) (nxt_le h)
    have g := nxt_ge' (tp := tp) (n := n) (p := s.p)
    exact ⟨Nat.le_trans g z.1, z.2.1, fun q => Nat.lt_of_le_of_lt g (z.2.2 q)⟩
theorem ln0_p {s : PS} : (ln0 tp n s).p = s.p := by
  unfold ln0
  show (if s.nl = 16 then ltr tp n s 3 else s).p = _
  split
  · exact ltr_p
  · rfl
theorem ln0_nl {s : PS} : (ln0 tp n s).nl = s.nl := by
  unfold ln0
  show (if s.nl = 16 then ltr tp n s 3 else s).nl = _
  split
  · exact ltr_nl
  · rfl
theorem lnS_p {s : PS} {w : Int32} (h : s.p ≤ n) : s.p ≤ (lnS tp n s w).2.p ∧ (lnS tp n s w).2.p ≤ n ∧ ((lnS tp n s w).1 = true → s.p < (lnS tp n s w).2.p) := by
  unfold lnS
  have e := ln0_p (tp := tp) (n := n) (s := s)
  split
  · have z := tlS_p (tp := tp) (n := n) (f := n + 1) (s := ln0 tp n s) (l := l16 s.nl) (k := 0) (by rw [e]; exact h)
    rw [e] at z
    unfold ln1
    split
    · rename_i c
      exact ⟨z.1, z.2, fun q => absurd (c.symm.trans q) (by decide)⟩
    · have y := needS_p (tp := tp) (c := 58) z.2
      split
      · rename_i c
        exact ⟨Nat.le_trans z.1 y.1, y.2.1, fun q => absurd (c.symm.trans q) (by decide)⟩
      · have x := acS_p (tp := tp) (w := w) (l := l16 s.nl) y.2.1
        exact ⟨Nat.le_trans z.1 (Nat.le_trans y.1 x.1), x.2.1, fun q => Nat.lt_of_le_of_lt (Nat.le_trans z.1 y.1) (x.2.2 q)⟩
  · have x := acS_p (tp := tp) (w := w) (l := l16 s.nl) (s := ln0 tp n s) (by rw [e]; exact h)
    rw [e] at x
    exact x
theorem sM_i {k : Int32} (h : k = 0 ∨ k = 1 ∨ k = 2 ∨ k = 3 ∨ k = 4 ∨ k = 5) : (sM k = 2 ↔ k = 1) ∧ (sM k = 3 ↔ k = 2) ∧ (sM k = 4 ↔ k = 3) ∧ (sM k = 0 ↔ k = 0) := by
  rcases h with rfl | rfl | rfl | rfl | rfl | rfl <;> decide
theorem knd_c (p : Nat) : knd tp n p = 0 ∨ knd tp n p = 1 ∨ knd tp n p = 2 ∨ knd tp n p = 3 ∨ knd tp n p = 4 ∨ knd tp n p = 5 := by
  by_cases c : kn0 tp n p = 2 ∧ 4 < nxt tp n p - plc tp n p
  · have e : knd tp n p = 5 := by unfold knd; rw [if_pos c]
    exact Or.inr (Or.inr (Or.inr (Or.inr (Or.inr e))))
  · have e : knd tp n p = kn0 tp n p := by unfold knd; rw [if_neg c]
    rw [e]
    by_cases c2 : plc tp n p < n
    · rw [kn0_of c2]
      exact Or.inr (kb_c _)
    · have e2 : kn0 tp n p = 0 := by unfold kn0; rw [if_neg c2]
      exact Or.inl e2
end PP
/-- the words' letters -/
theorem sByt_l : ∀ k, k < 19 → ∀ i, i < sLen.getD k 0 → 97 ≤ ((sByt.getD k []).getD i 0).toInt ∧ ((sByt.getD k []).getD i 0).toInt ≤ 122 := by decide +kernel
theorem sLen_l : ∀ k, k < 19 → 0 < sLen.getD k 0 ∧ sLen.getD k 0 ≤ 5 := by decide +kernel
def wdC (k : Nat) : Int64 := Int64.ofNat (pkN (fun i => ((sByt.getD k []).getD i 0).toNatClampNeg) (sLen.getD k 0))
section PM
variable {tp : Nat → Int32} {n : Nat}
theorem m_wd {I : mI} {L : mL} {p k : Nat} (tk : TkM tp n I L p) (hk : k < 19) {C : Int64} (hC : C = wdC k) : (I 83 48 = 2 ∧ lg_cmp (L 83 50) C = 0) ↔ wdB tp n p k = true := by
  rw [wdB_iff, tk.2.2.1, (sM_i (knd_c p)).1, lg_cmp_eq, hC]
  have hl := sLen_l k hk
  refine and_congr_right fun h1 => ?_
  obtain ⟨g1, g2, g3, g4⟩ := kn_1 h1
  rw [tk.2.2.2.2.2 h1]
  have e97 : (97 : Int32).toInt = 97 := by decide
  have e122 : (122 : Int32).toInt = 122 := by decide
  have hf : ∀ i, i < nxt tp n p - plc tp n p → 97 ≤ (tp (plc tp n p + i)).toInt ∧ (tp (plc tp n p + i)).toInt ≤ 122 := fun i hi => by
    have hi2 := kb_1.mp (g4 (plc tp n p + i) (by omega) (by omega)).2
    rw [fa_lt, fa_lt, e97, e122] at hi2
    omega
  have hcl : 2 * pkN (fun i => ((sByt.getD k []).getD i 0).toNatClampNeg) (sLen.getD k 0) < 256 ^ (sLen.getD k 0) := pkN_l2 (fun i hi => by
    have := sByt_l k hk i hi
    show ((sByt.getD k []).getD i 0).toInt.toNat < 128
    omega)
  have hpw : 256 ^ (sLen.getD k 0) ≤ 256 ^ 5 := Nat.pow_le_pow_right (by decide) hl.2
  have h5 : (256 : Nat) ^ 5 = 2 ^ 40 := by decide
  by_cases c : nxt tp n p - plc tp n p ≤ 8
  · rw [if_pos c]
    have hw : 2 * wvN tp (plc tp n p) (nxt tp n p - plc tp n p) < 256 ^ (nxt tp n p - plc tp n p) := pkN_l2 (fun i hi => by
      have := hf i hi
      show (tp (plc tp n p + i)).toInt.toNat < 128
      omega)
    have hpw2 : 256 ^ (nxt tp n p - plc tp n p) ≤ 256 ^ 8 := Nat.pow_le_pow_right (by decide) c
    have h8 : (256 : Nat) ^ 8 = 2 ^ 64 := by decide
    unfold wdC
    rw [l6_inj (by omega) (by omega)]
    unfold wvN
    rw [pkN_inj (fun i hi => by
      have := hf i hi
      show 0 < (tp (plc tp n p + i)).toInt.toNat ∧ (tp (plc tp n p + i)).toInt.toNat < 256
      omega) (fun i hi => by
      have := sByt_l k hk i hi
      show 0 < ((sByt.getD k []).getD i 0).toInt.toNat ∧ ((sByt.getD k []).getD i 0).toInt.toNat < 256
      omega)]
    refine and_congr_right fun e1 => ?_
    rw [← e1]
    constructor
    · intro e i hi
      have a1 := e i hi
      have a2 := hf i hi
      have a3 := sByt_l k hk i (by omega)
      have a4 : (tp (plc tp n p + i)).toInt.toNat = ((sByt.getD k []).getD i 0).toInt.toNat := a1
      rw [fa_eq]; omega
    · intro e i hi
      show (tp (plc tp n p + i)).toNatClampNeg = ((sByt.getD k []).getD i 0).toNatClampNeg
      rw [e i hi]
  · rw [if_neg c]
    constructor
    · intro e
      exfalso
      have e0 : (0 : Int64) = Int64.ofNat 0 := rfl
      unfold wdC at e
      rw [e0, l6_inj (by omega) (by omega)] at e
      obtain ⟨m, hm⟩ : ∃ m, sLen.getD k 0 = m + 1 := ⟨sLen.getD k 0 - 1, by omega⟩
      rw [hm, pkN] at e
      have a3 := sByt_l k hk m (by omega)
      have a4 : ((sByt.getD k []).getD m 0).toNatClampNeg = ((sByt.getD k []).getD m 0).toInt.toNat := rfl
      omega
    · intro e; have := e.1; omega
end PM
