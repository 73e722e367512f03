/-! texts: the component reads -/
def ftS (a : mI) (l : Nat) : Nat := fb_sm (tcA a) l
def TWc (I a : mI) (m q : Nat) : Prop := I 52 m = a 130 q &&& 15 ∧ (I 53 m = if (a 130 q &&& 15) < 5 then 0 else a 131 q) ∧ (I 54 m = if (a 130 q &&& 15) < 5 then 0 else a 132 q) ∧ (I 55 m = if 15 < a 130 q then 1 else 0)
def Dr0 (I : mI) (nl : Nat) (a : mI) (k : Nat) : Prop :=
  (I 47 9 = 0 ∧ I 47 10 = (-1) ∧ I 47 6 = nI nl ∧ I 47 7 = nI (ftS a nl + k)) ∧ (∀ l, l ≤ nl → I 51 l = nI (ftS a l)) ∧ (∀ l, l < nl → I 49 l = a 128 l ∧ I 50 l = a 129 l) ∧ (∀ l j, (l < nl ∧ j < tcA a l) ∨ (l = nl ∧ j < k) → TWc I a (ftS a l + j) (4 * l + j))
theorem Dr0.cg {I I' a : mI} {nl k : Nat} (d : Dr0 I nl a k) (h1 : ∀ b, 49 ≤ b → b ≤ 55 → I' b = I b) (h2 : ∀ j, j = 6 ∨ j = 7 ∨ j = 9 ∨ j = 10 → I' 47 j = I 47 j) : Dr0 I' nl a k := by
  unfold Dr0 TWc at d ⊢
  rw [h2 9 (by omega), h2 10 (by omega), h2 6 (by omega), h2 7 (by omega), h1 51 (by omega) (by omega), h1 49 (by omega) (by omega), h1 50 (by omega) (by omega), h1 52 (by omega) (by omega), h1 53 (by omega) (by omega), h1 54 (by omega) (by omega), h1 55 (by omega) (by omega)]
  exact d
theorem ftS_cg {a b : mI} {l : Nat} (h : ∀ i, i < l → b 127 i = a 127 i) : ftS b l = ftS a l := by
  unfold ftS; exact fb_sm_cong fun i hi => by unfold tcA; rw [h i hi]
/-- only the line at hand changes -/
theorem Dr0.set {I a : mI} {nl k c : Nat} {x : Int32} (d : Dr0 I nl a k) (hc : c = 128 ∨ c = 129) : Dr0 I nl (uI a c nl x) k := by
  obtain ⟨d1, d2, d3, d4⟩ := d
  have e127 : uI a c nl x 127 = a 127 := uI_ne (by omega)
  have ef : ∀ l, ftS (uI a c nl x) l = ftS a l := fun l => ftS_cg fun i _ => by rw [e127]
  refine ⟨by rw [ef]; exact d1, fun l hl => by rw [ef]; exact d2 l hl, fun l hl => ?_, fun l j h => ?_⟩
  · have e8 : uI a c nl x 128 l = a 128 l := by
      by_cases e : c = 128
      · subst e; exact uI_nj (by omega)
      · rw [uI_ne (by omega)]
    have e9 : uI a c nl x 129 l = a 129 l := by
      by_cases e : c = 129
      · subst e; exact uI_nj (by omega)
      · rw [uI_ne (by omega)]
    rw [e8, e9]; exact d3 l hl
  · have et : tcA (uI a c nl x) l = tcA a l := by unfold tcA; rw [e127]
    rw [et] at h
    have z := d4 l j h
    unfold TWc at z ⊢
    rw [ef, uI_ne (show (130 : Nat) ≠ c by omega), uI_ne (show (131 : Nat) ≠ c by omega), uI_ne (show (132 : Nat) ≠ c by omega)]
    exact z
def FT (I I' : mI) : Prop := (∀ a, a < 47 ∨ 55 < a → I' a = I a) ∧ I' 51 0 = I 51 0 ∧ I' 48 = I 48
theorem FT.rf {I : mI} : FT I I := ⟨fun _ _ => rfl, rfl, rfl⟩
theorem FT.tr {I J K : mI} (h : FT I J) (k : FT J K) : FT I K := ⟨fun a ha => (k.1 a ha).trans (h.1 a ha), k.2.1.trans h.2.1, k.2.2.trans h.2.2⟩
theorem F47.ft {I I' : mI} (f : F47 I I') : FT I I' := ⟨fun a ha => f.1 a (by omega), by rw [f.1 51 (by decide)], f.1 48 (by decide)⟩
theorem FT.u {I : mI} {a i : Nat} {x : Int32} (h : (47 ≤ a ∧ a ≤ 55) ∧ a ≠ 51 ∧ a ≠ 48 := by omega) : FT I (uI I a i x) := ⟨fun b hb => uI_ne (by omega), by rw [uI_ne (by omega)], uI_ne (by omega)⟩
section PC
variable (tp : Nat → Int32) (n : Nat) (w : Int32)
def PCs (I : mI) (s : PS) (k : Nat) : Prop := TkC tp n I s.p ∧ I 47 5 = w ∧ (s.lf = 0 → Dr0 I s.nl s.a k) ∧ (¬ s.lf = 0 → I 47 9 = s.lf ∧ I 47 10 = s.lp) ∧ I 1 7 = nI n ∧ ∀ i, i < n → I 37 i = tp i
def PC8 (I : mI) (s : PS) (k : Nat) : Prop := s.lf = 0 → I 47 8 = nI k
def PCf (I : mI) (s : PS) : Prop := I 47 9 = 1 ∧ I 47 10 = nI (plc tp n s.p)
variable {tp n w} {E : Envt} {d : Nat} {Q : Pst} {h : mS} {I : mI} {L : mL} {s : PS} {k : Nat}
theorem c_adv (hs : SL h) (n5 : n ≤ 500) (r : PCs tp n w I s k) (hp : s.p ≤ n) (hQ : ∀ I', FT I I' → I' 47 8 = I 47 8 → PCs tp n w I' (adv tp n s) k → Q none h I' L) : (CT E mX8_advance (d + 1) 0 0 [.ref (eB E + 47)] h I L Q) := by
  obtain ⟨t, r1, r2, r3, r4, r5⟩ := r
  refine c_advance (p := nxt tp n s.p) hs n5 (nxt_le hp) r4 r5 t.2.2.1 (fun I' f t' => hQ I' f.ft (f.2 8 (by decide) (by decide) (by decide) (by decide)) ⟨t', ?_, fun e => (r2 e).cg (fun b h1 h2 => f.1 b (by omega)) (fun j hj => f.2 j (by omega) (by omega) (by omega) (by omega)), ?_, ?_, ?_⟩)
  · rw [f.2 5 (by decide) (by decide) (by decide) (by decide)]; exact r1
  · rw [f.2 9 (by decide) (by decide) (by decide) (by decide), f.2 10 (by decide) (by decide) (by decide) (by decide)]; exact r3
  · rw [f.1 1 (by decide)]; exact r4
  · rw [f.1 37 (by decide)]; exact r5
theorem TkC.cg {I I' : mI} {p : Nat} (t : TkC tp n I p) (e : ∀ j, j = 1 ∨ j = 2 ∨ j = 3 ∨ j = 4 → I' 47 j = I 47 j) : TkC tp n I' p := by
  unfold TkC at t ⊢
  rw [e 1 (by omega), e 2 (by omega), e 3 (by omega), e 4 (by omega)]
  exact t
theorem c_note (hs : SL h) {f : Int32} (hf : ¬ f = 0) (r : PCs tp n w I s k) (hQ : ∀ I', FT I I' → I' 47 8 = I 47 8 → PCs tp n w I' (ltr tp n s f) k → Q none h I' L) : (CT E mX8_note d 0 0 [.ref (eB E + 47), .int f] h I L Q) := by
  have r0 := r
  obtain ⟨t, r1, r2, r3, r4, r5⟩ := r
  refine w_X8_note hs _ ?_
  by_cases c : s.lf = 0
  · have e : ltr tp n s f = ⟨s.p, f, nI (plc tp n s.p), s.nl, s.a⟩ := by unfold ltr; rw [if_pos c]
    rw [e] at hQ
    refine br_t (r2 c).1.1 (hQ _ (FT.tr FT.u FT.u) (by rw [uI_nj (by decide), uI_nj (by decide)]) ⟨t.cg fun j hj => by rw [uI_nj (by omega), uI_nj (by omega)], ?_, fun e => absurd (show f = 0 from e) hf, fun _ => ⟨?_, ?_⟩, ?_, ?_⟩)
    · rw [uI_nj (by decide), uI_nj (by decide)]; exact r1
    · rw [uI_nj (by decide), uI_eq]; rfl
    · rw [uI_eq]; exact t.2.1
    · rw [uI_ne (by decide), uI_ne (by decide)]; exact r4
    · rw [uI_ne (by decide), uI_ne (by decide)]; exact r5
  · have e : ltr tp n s f = s := by unfold ltr; rw [if_neg c]
    rw [e] at hQ
    exact br_f (by rw [(r3 c).1]; exact c) (hQ I FT.rf rfl r0)
theorem c_refuse (hs : SL h) (t : I 47 2 = nI (plc tp n s.p)) (hQ : ∀ I', FT I I' → PCf tp n I' s → Q (some (.int 0)) h I' L) : (CT E mX8_refuse d 0 0 [.ref (eB E + 47)] h I L Q) :=
  w_X8_refuse hs (hQ _ (FT.tr FT.u FT.u) ⟨by rw [uI_nj (by decide), uI_eq], by rw [uI_eq]; exact t⟩)
theorem kn_3 {p : Nat} (h : knd tp n p = 3) : plc tp n p < n := by
  apply Classical.byContradiction; intro z
  rw [kn_0.mpr z] at h; exact absurd h (by decide)
theorem c_take (hs : SL h) (n5 : n ≤ 500) {c : Int32} (r : PCs tp n w I s k) (hp : s.p ≤ n) (h1 : ∀ I', FT I I' → (needS tp n s c).1 = true → PCs tp n w I' (needS tp n s c).2 k → Q (some (.int 1)) h I' L) (h0 : ∀ I', FT I I' → (needS tp n s c).1 = false → PCf tp n I' (needS tp n s c).2 → Q (some (.int 0)) h I' L) : (CT E mX8_takeSign (d + 2) 0 0 [.ref (eB E + 47), .int c] h I L Q) := by
  have t := r.1
  have tp5 := r.2.2.2.2.2
  refine w_X8_takeSign hs _ ?_
  rw [t.1, t.2.1]
  refine ⟨fun e => vp_in_nI (by have := kn_3 e; omega) (by decide), ?_⟩
  by_cases c3 : knd tp n s.p = 3
  · have pl := kn_3 c3
    rw [nI_clamp (show plc tp n s.p < 2 ^ 31 by omega), tp5 _ pl]
    refine br_c (fun c1 => ?_) (fun c1 => ?_)
    · have e : needS tp n s c = (true, adv tp n s) := by unfold needS; rw [if_pos c1]
      rw [e] at h1
      exact c_adv hs n5 r hp (fun I' f' _ r' => qv_i (h1 I' f' rfl r'))
    · have e : needS tp n s c = (false, s) := by unfold needS; rw [if_neg c1]
      rw [e] at h0
      exact c_refuse (tp := tp) (n := n) (s := s) hs t.2.1 (fun I' f' r' => qi_i ⟨Or.inl rfl, h0 I' f' rfl r'⟩)
  · have e : needS tp n s c = (false, s) := by unfold needS; rw [if_neg (fun z => c3 z.1)]
    rw [e] at h0
    exact br_f (fun z => c3 z.1) (c_refuse (tp := tp) (n := n) (s := s) hs t.2.1 (fun I' f' r' => qi_i ⟨Or.inl rfl, h0 I' f' rfl r'⟩))
theorem ft_le {a : mI} {l : Nat} (h : ∀ i, i < l → RWf w a i) : ftS a l ≤ 4 * l := by
  unfold ftS
  induction l with
  | zero => exact Nat.le_refl _
  | succ l ih =>
    obtain ⟨⟨t, t4, et, -⟩, -⟩ := h l (by omega)
    have e : tcA a l = t := by unfold tcA; rw [et, nI_clamp (by omega)]
    have := ih (fun i hi => h i (by omega))
    rw [fb_sm_succ, e]; omega
theorem c_keepTest (hs : SL h) {x g t u y z v : Int32} (r : PCs tp n w I s k) (r8 : PC8 I s k) (pi : PIf w s k) (hk : s.lf = 0 → k < 4) (ex : u = x &&& 15) (ey : y = if (x &&& 15) < 5 then 0 else g) (ez : z = if (x &&& 15) < 5 then 0 else t) (ev : v = if 15 < x then 1 else 0) (hQ : ∀ I', FT I I' → PCs tp n w I' (stT s (l16 s.nl) k x g t) (k + 1) → PC8 I' (stT s (l16 s.nl) k x g t) (k + 1) → Q none h I' L) : (CT E mX8_keepTest d 0 0 [.ref (eB E + 47), .int u, .int y, .int z, .int v] h I L Q) := by
  have r0 := r
  obtain ⟨tk, r1, r2, r3, r4, r5⟩ := r
  refine w_X8_keepTest hs _ _ _ _ ?_
  by_cases c : s.lf = 0
  · obtain ⟨⟨d0, d1, d2, d3⟩, d4, d5, d6⟩ := r2 c
    obtain ⟨p1, p2, p3, p4, p5⟩ := pi c
    have hk4 := hk c
    have fl := ft_le p2
    have ea : stT s (l16 s.nl) k x g t = ⟨s.p, s.lf, s.lp, s.nl, uI (uI (uI (uI s.a 130 (4 * s.nl + k) x) 131 (4 * s.nl + k) g) 132 (4 * s.nl + k) t) 127 s.nl (nI k + 1)⟩ := by
      rw [l16_lt p1]; unfold stT; rw [if_pos ⟨hk4, p1⟩]
    rw [ea] at hQ
    refine br_t d0 ⟨by rw [d3]; exact vp_in_nI (by omega) (by decide), by rw [ev]; split <;> first | exact Or.inr rfl | exact Or.inl rfl, ?_⟩
    rw [d3, r8 c, nI_clamp (show ftS s.a s.nl + k < 2 ^ 31 by omega), nI_1, nI_1]
    have ef : ∀ l, l ≤ s.nl → ftS (uI (uI (uI (uI s.a 130 (4 * s.nl + k) x) 131 (4 * s.nl + k) g) 132 (4 * s.nl + k) t) 127 s.nl (nI k + 1)) l = ftS s.a l := fun l hl => ftS_cg fun i hi => by
      rw [uI_nj (by omega), uI_ne (by decide), uI_ne (by decide), uI_ne (by decide)]
    have mono : ∀ l j, (l < s.nl ∧ j < tcA s.a l) → ftS s.a l + j < ftS s.a s.nl := fun l j hh => by
      have hle : ftS s.a (l + 1) ≤ ftS s.a s.nl := by
        have : ∀ m, l + 1 ≤ m → ftS s.a (l + 1) ≤ ftS s.a m := by
          intro m hm
          induction m with
          | zero => omega
          | succ m ih =>
            by_cases e : l + 1 = m + 1
            · rw [e]; exact Nat.le_refl _
            · have := ih (by omega)
              have e2 : ftS s.a (m + 1) = ftS s.a m + tcA s.a m := rfl
              omega
        exact this _ (by omega)
      have e2 : ftS s.a (l + 1) = ftS s.a l + tcA s.a l := rfl
      omega
    refine hQ _ (FT.tr (FT.tr (FT.tr (FT.tr (FT.tr FT.u FT.u) FT.u) FT.u) FT.u) FT.u) ⟨tk.cg fun j hj => ?_, ?_, fun _ => ⟨⟨?_, ?_, ?_, ?_⟩, fun l hl => ?_, fun l hl => ?_, fun l j hh => ?_⟩, fun e => absurd c e, ?_, ?_⟩ (fun _ => by rw [uI_eq])
    · rw [uI_nj (by omega), uI_nj (by omega), uI_ne (by decide), uI_ne (by decide), uI_ne (by decide), uI_ne (by decide)]
    · simp (disch := decide) only [uI_ne, uI_nj]; exact r1
    · simp (disch := decide) only [uI_ne, uI_nj]; exact d0
    · simp (disch := decide) only [uI_ne, uI_nj]; exact d1
    · simp (disch := decide) only [uI_ne, uI_nj]; exact d2
    · rw [uI_nj (by decide), uI_eq]
      show nI (ftS s.a s.nl + k + 1) = nI (ftS (uI (uI (uI (uI s.a 130 (4 * s.nl + k) x) 131 (4 * s.nl + k) g) 132 (4 * s.nl + k) t) 127 s.nl (nI k + 1)) s.nl + (k + 1))
      rw [ef _ (Nat.le_refl _)]; rfl
    · have hl : l ≤ s.nl := hl
      simp (disch := decide) only [uI_ne]
      show I 51 l = nI (ftS (uI (uI (uI (uI s.a 130 (4 * s.nl + k) x) 131 (4 * s.nl + k) g) 132 (4 * s.nl + k) t) 127 s.nl (nI k + 1)) l)
      rw [ef l hl]; exact d4 l hl
    · simp (disch := decide) only [uI_ne]
      show I 49 l = uI (uI (uI (uI s.a 130 (4 * s.nl + k) x) 131 (4 * s.nl + k) g) 132 (4 * s.nl + k) t) 127 s.nl (nI k + 1) 128 l ∧ I 50 l = uI (uI (uI (uI s.a 130 (4 * s.nl + k) x) 131 (4 * s.nl + k) g) 132 (4 * s.nl + k) t) 127 s.nl (nI k + 1) 129 l
      simp (disch := decide) only [uI_ne]
      exact d5 l hl
    · have hh : (l < s.nl ∧ j < tcA (uI (uI (uI (uI s.a 130 (4 * s.nl + k) x) 131 (4 * s.nl + k) g) 132 (4 * s.nl + k) t) 127 s.nl (nI k + 1)) l) ∨ (l = s.nl ∧ j < k + 1) := hh
      have hle : l ≤ s.nl := by omega
      show TWc _ (uI (uI (uI (uI s.a 130 (4 * s.nl + k) x) 131 (4 * s.nl + k) g) 132 (4 * s.nl + k) t) 127 s.nl (nI k + 1)) (ftS (uI (uI (uI (uI s.a 130 (4 * s.nl + k) x) 131 (4 * s.nl + k) g) 132 (4 * s.nl + k) t) 127 s.nl (nI k + 1)) l + j) _
      rw [ef l hle]
      unfold TWc
      simp (disch := decide) only [uI_ne, uI_at]
      by_cases cj : l = s.nl ∧ j = k
      · obtain ⟨rfl, rfl⟩ := cj
        rw [upd_same', upd_same', upd_same', upd_same', upd_same', upd_same', upd_same']
        exact ⟨ex, ey, ez, ev⟩
      · have hold : (l < s.nl ∧ j < tcA s.a l) ∨ (l = s.nl ∧ j < k) := by
          rcases hh with hh | hh
          · left
            refine ⟨hh.1, ?_⟩
            have := hh.2
            unfold tcA at this ⊢
            rw [uI_nj (by omega), uI_ne (by decide), uI_ne (by decide), uI_ne (by decide)] at this
            exact this
          · right; omega
        have ne1 : ftS s.a l + j ≠ ftS s.a s.nl + k := by
          rcases hold with hh | hh
          · have := mono l j hh; omega
          · rw [hh.1]; omega
        have tl4 : l < s.nl → j < 4 := fun hl => by
          obtain ⟨⟨t', t4, et', -⟩, -⟩ := p2 l hl
          have e : tcA s.a l = t' := by unfold tcA; rw [et', nI_clamp (by omega)]
          rcases hold with hh | hh
          · have := hh.2; omega
          · omega
        have ne2 : 4 * l + j ≠ 4 * s.nl + k := by
          rcases hold with hh | hh
          · have := tl4 hh.1; omega
          · omega
        rw [upd_ne' ne1, upd_ne' ne1, upd_ne' ne1, upd_ne' ne1, upd_ne' ne2, upd_ne' ne2, upd_ne' ne2]
        exact d6 l j hold
    · simp (disch := decide) only [uI_ne]; exact r4
    · simp (disch := decide) only [uI_ne]; exact r5
  · refine br_f (by rw [(r3 c).1]; exact c) (hQ I FT.rf ⟨by rw [stT_p]; exact tk, r1, fun e => ?_, fun _ => ?_, r4, r5⟩ (fun e => ?_))
    · rw [stT_lf.1] at e; exact absurd e c
    · rw [stT_lf.1, stT_lf.2]; exact r3 c
    · rw [stT_lf.1] at e; exact absurd e c
end PC
