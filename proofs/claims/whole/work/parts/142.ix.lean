/-! the book reads only so far into its rows; slots -/
def sz (a : Nat) : Nat := if a = 84 then 500 else if a = 89 then 25 else if 91 ≤ a ∧ a ≤ 94 then 8 else if 96 ≤ a ∧ a ≤ 103 then 20 else if a = 105 then 240 else if 107 ≤ a ∧ a ≤ 114 then 30 else if a = 115 then 330 else if a = 116 then 67 else if 117 ≤ a ∧ a ≤ 119 then 1072 else if 120 ≤ a ∧ a ≤ 122 then 4288 else if 84 ≤ a ∧ a ≤ 122 then 1 else 0
def EQx (V V' : mI) : Prop := ∀ a i, i < sz a → V' a i = V a i
theorem fa_first_cg {p q : Nat → Bool} : ∀ {n : Nat}, (∀ k, k < n → p k = q k) → fa_first p n = fa_first q n
  | 0, _ => rfl
  | n + 1, h => by
    unfold fa_first
    rw [fa_first_cg (n := n) (fun k hk => h k (by omega)), h n (by omega)]
theorem fstI_cg {p q : Nat → Bool} {n : Nat} (h : ∀ k, k < n → p k = q k) : fstI p n = fstI q n := by
  unfold fstI; rw [fa_first_cg h]
theorem tkB_cg {r r' : Nat → Int32} {a : Nat} (h : ∀ b, b < 5 → r' (5 * a + b) = r (5 * a + b)) : ∀ {b : Nat} {t : Nat → Int32}, b ≤ 5 → tkB r' a b t = tkB r a b t
  | 0, t, _ => rfl
  | b + 1, t, hb => by
    rw [tkB, tkB, tkB_cg h (by omega)]
    unfold rlx
    rw [h b (by omega)]
theorem tkA_cg {r r' : Nat → Int32} (h : ∀ a b, a < 5 → b < 5 → r' (5 * a + b) = r (5 * a + b)) : ∀ {a : Nat} {t : Nat → Int32}, a ≤ 5 → tkA r' a t = tkA r a t
  | 0, t, _ => rfl
  | a + 1, t, ha => by rw [tkA, tkA, tkA_cg h (by omega), tkB_cg (fun b hb => h a b (by omega) hb) (Nat.le_refl _)]
theorem tkR_cg {r r' : Nat → Int32} (h : ∀ a b, a < 5 → b < 5 → r' (5 * a + b) = r (5 * a + b)) : ∀ {k : Nat} {t : Nat → Int32}, tkR r' k t = tkR r k t
  | 0, t => rfl
  | k + 1, t => by rw [tkR, tkR, tkR_cg h, tkA_cg h (Nat.le_refl _)]
section IX
variable {V V' : mI}
theorem EQx.cY (e : EQx V V') : cY V' = cY V := by unfold Jvm.Pilot.CMatchBookLaw_law_r3936_f22c6d.cY; rw [e 88 0 (by decide)]
theorem EQx.cT (e : EQx V V') : cT V' = cT V := by unfold Jvm.Pilot.CMatchBookLaw_law_r3936_f22c6d.cT; rw [e 85 0 (by decide)]
theorem EQx.cH (e : EQx V V') : cH V' = cH V := by unfold Jvm.Pilot.CMatchBookLaw_law_r3936_f22c6d.cH; rw [e 90 0 (by decide)]
theorem EQx.cP (e : EQx V V') : cP V' = cP V := by unfold Jvm.Pilot.CMatchBookLaw_law_r3936_f22c6d.cP; rw [e 95 0 (by decide)]
theorem EQx.cN (e : EQx V V') : cN V' = cN V := by unfold Jvm.Pilot.CMatchBookLaw_law_r3936_f22c6d.cN; rw [e 104 0 (by decide)]
theorem EQx.cM (e : EQx V V') : cM V' = cM V := by unfold Jvm.Pilot.CMatchBookLaw_law_r3936_f22c6d.cM; rw [e 106 0 (by decide)]
theorem EQx.fd (e : EQx V V') {i j : Nat} (hi : i < 8) : fdB V' i j = fdB V i j := by unfold fdB; rw [e 94 i hi]
theorem EQx.op (e : EQx V V') {m : Nat} (hm : m < 30) : opB V' m = opB V m := by unfold opB; rw [e 109 m hm]
theorem ix_S (e : EQx V V') (w : WfS V) : WfS V' := by
  refine ⟨?_, by rw [e.cY]; exact w.y3, ?_, by rw [e.cT]; exact w.t5, fun i hi => by rw [e 84 i hi]; exact w.tb i hi⟩
  · rw [e.cY, e 88 0 (by decide)]; exact w.y
  · rw [e.cT, e 85 0 (by decide)]; exact w.t
theorem ix_H (e : EQx V V') (w : WfH V) : WfH V' := by
  refine ⟨by rw [e.cH, e 90 0 (by decide)]; exact w.n, by rw [e.cH]; exact w.n8, fun i hi => by rw [e 92 i hi]; exact w.vil i hi, fun i j hi hj => by rw [e.fd hi, e.fd hj]; exact w.fs i j hi hj, fun i hi => by rw [e.fd hi]; exact w.fd i hi, fun i j hi hh => ?_⟩
  rw [e.fd hi] at hh
  rw [e.cH]; exact w.fb i j hi hh
theorem ix_P (e : EQx V V') (w : WfP V) : WfP V' := by
  have n20 := w.n20
  refine ⟨by rw [e.cP, e 95 0 (by decide)]; exact w.n, by rw [e.cP]; exact n20, fun i hi => by rw [e 96 i hi]; exact w.hou i hi, fun i hi => by rw [e 97 i hi]; exact w.kin i hi, fun i hi => by rw [e 98 i hi]; exact w.sta i hi, fun i hi => by rw [e 99 i hi]; exact w.bor i hi, fun i hi => by rw [e 100 i hi]; exact w.dea i hi, fun i hi => by rw [e 102 i hi]; exact w.wid i hi, fun i hi => by rw [e 103 i hi]; exact w.eve i hi, fun i hi => ?_⟩
  rw [e.cP] at hi ⊢
  rw [e 101 i (show i < 20 by omega)]; exact w.spo i hi
theorem ix_N (e : EQx V V') (w : WfN V) : WfN V' := by
  have n60 := w.n60
  have q : ∀ i, i < 240 → V' 105 i = V 105 i := fun i hi => e 105 i hi
  refine ⟨by rw [e.cN, e 104 0 (by decide)]; exact w.n, by rw [e.cN]; exact n60, fun k hk => ?_, fun k hk => ?_, fun k hk => ?_, fun k hk => ?_, fun k c f hk h1 h2 hc hf => ?_⟩
  · rw [e.cN] at hk; rw [q _ (by omega), e.cP]; exact w.chi k hk
  · rw [e.cN] at hk; rw [q _ (by omega), e.cP]; exact w.par k hk
  · rw [e.cN] at hk; rw [q _ (by omega)]; exact w.at k hk
  · rw [e.cN] at hk; rw [q _ (by omega)]; exact w.in k hk
  · rw [e.cN] at hk
    rw [q _ (by omega)] at h1 h2
    rw [e 99 f hf, e 99 c hc]; exact w.old k c f hk h1 h2 hc hf
theorem ix_R (e : EQx V V') (w : WfR V) : WfR V' := by
  have q : ∀ i, i < 25 → V' 89 i = V 89 i := fun i hi => e 89 i hi
  refine ⟨fun a b ha hb => ?_, fun a b ha hb => ?_⟩
  · rw [q _ (by omega), q _ (by omega)]; exact w.sym a b ha hb
  · rw [q _ (by omega)]; exact w.rng a b ha hb
theorem ix_M (e : EQx V V') (wp : WfP V) (w : WfM V) : WfM V' := by
  have n30 := w.n30
  have n20 := wp.n20
  have q : ∀ a m, 107 ≤ a → a ≤ 114 → m < 30 → V' a m = V a m := fun a m h1 h2 hm => e a m (by
    have : a = 107 ∨ a = 108 ∨ a = 109 ∨ a = 110 ∨ a = 111 ∨ a = 112 ∨ a = 113 ∨ a = 114 := by omega
    rcases this with rfl | rfl | rfl | rfl | rfl | rfl | rfl | rfl <;> exact hm)
  refine ⟨by rw [e.cM, e 106 0 (by decide)]; exact w.n, by rw [e.cM]; exact n30, fun m hm => ?_, fun m hm => ?_, fun m hm => ?_, fun m hm => ?_, fun m hm => ?_, fun m hm => ?_, fun m hm => ?_, fun m k hm hk => ?_⟩
  · rw [e.cM] at hm
    obtain ⟨p, p1, p2, p3⟩ := w.bri m hm
    exact ⟨p, by rw [e.cP]; exact p1, by rw [q 107 m (by omega) (by omega) (by omega)]; exact p2, by rw [e 97 p (show p < 20 by omega)]; exact p3⟩
  · rw [e.cM] at hm
    obtain ⟨p, p1, p2, p3⟩ := w.gro m hm
    exact ⟨p, by rw [e.cP]; exact p1, by rw [q 108 m (by omega) (by omega) (by omega)]; exact p2, by rw [e 97 p (show p < 20 by omega)]; exact p3⟩
  · rw [e.cM] at hm; rw [q 109 m (by omega) (by omega) (by omega)]; exact w.sta m hm
  · rw [e.cM] at hm; rw [q 110 m (by omega) (by omega) (by omega)]; exact w.gif m hm
  · rw [e.cM] at hm; rw [q 111 m (by omega) (by omega) (by omega)]; exact w.bac m hm
  · rw [e.cM] at hm; rw [q 109 m (by omega) (by omega) (by omega), q 112 m (by omega) (by omega) (by omega)]; exact w.pa0 m hm
  · rw [e.cM] at hm; rw [q 109 m (by omega) (by omega) (by omega), q 112 m (by omega) (by omega) (by omega), q 110 m (by omega) (by omega) (by omega)]; exact w.pa1 m hm
  · rw [e.cM] at hm hk
    rw [e.op (show m < 30 by omega), e.op (show k < 30 by omega), q 107 m (by omega) (by omega) (by omega), q 107 k (by omega) (by omega) (by omega), q 108 m (by omega) (by omega) (by omega), q 108 k (by omega) (by omega) (by omega)]
    exact w.one m k hm hk
theorem ix_T (e : EQx V V') (w : WfT V) : WfT V' := by
  have q7 : ∀ r, r < 1072 → V' 117 r = V 117 r := fun r hr => e 117 r hr
  have q8 : ∀ r, r < 1072 → V' 118 r = V 118 r := fun r hr => e 118 r hr
  have q9 : ∀ r, r < 1072 → V' 119 r = V 119 r := fun r hr => e 119 r hr
  have q0 : ∀ r, r < 4288 → V' 120 r = V 120 r := fun r hr => e 120 r hr
  have q1 : ∀ r, r < 4288 → V' 121 r = V 121 r := fun r hr => e 121 r hr
  have q2 : ∀ r, r < 4288 → V' 122 r = V 122 r := fun r hr => e 122 r hr
  refine ⟨fun x hx => by rw [e 116 x hx]; exact w.li x hx, fun r hr => by rw [q7 r hr]; exact w.te r hr, fun x l hx hl h5 h6 => by rw [q8 _ (by omega)]; exact w.ac x l hx hl h5 h6, fun x l hx hl => by rw [q8 _ (by omega), e 116 x (show x < 67 by omega)]; exact w.aw x l hx hl, fun r hr => by rw [q9 r hr]; exact w.nu r hr, fun r hr => by rw [q8 r hr, q9 r hr]; exact w.nb r hr, fun q hq => by rw [q0 q hq]; exact w.wh q hq, fun r j hr hj => by rw [q7 r hr, q0 _ (by omega), q1 _ (by omega), q2 _ (by omega)]; exact w.fl r j hr hj, fun r j hr hj => by rw [q7 r hr, q1 _ (by omega)]; exact w.si r j hr hj⟩
theorem ix_W (e : EQx V V') (w : WfW V) : WfW V' := fun m j hm hj => by
  rw [e 115 _ (show 11 * m + j < 330 by omega)]; exact w m j hm hj
theorem ix (e : EQx V V') (w : Wf V) : Wf V' := ⟨ix_S e w.S, ix_H e w.H, ix_P e w.P, ix_N e w.N, ix_R e w.R, ix_M e w.P w.M, ix_T e w.T, ix_W e w.W⟩
theorem EQx.opA (e : EQx V V') (wm : WfM V) (p : Nat) : opA V' p = opA V p := by
  have n30 := wm.n30
  unfold Jvm.Pilot.CMatchBookLaw_law_r3936_f22c6d.opA
  rw [e.cM]
  refine fstI_cg fun k hk => ?_
  unfold hasB
  rw [e.op (show k < 30 by omega), e 107 k (show k < 30 by omega), e 108 k (show k < 30 by omega)]
theorem EQx.wy (e : EQx V V') (a v : Nat) : wyA V' a v = wyA V a v := by
  unfold wyA tkS
  rw [tkR_cg (r := V 89) (r' := V' 89) (fun a b ha hb => e 89 _ (show 5 * a + b < 25 by omega))]
theorem TRn.ix (e : EQx V V') {h : mS} {I : mI} {t x nl : Nat} (wt : WfT V) (w : TRn h I V t x nl) (hx : x < 67) : TRn h I V' t x nl := by
  have l16 := w.l16
  refine w.mv (e 116 x hx) (fun a l ha hl => ?_) (fun l hl => tc_4 wt (by omega)) (fun a l j ha hl hj => ?_)
  · rcases ha with rfl | rfl | rfl
    · exact e 117 _ (show 16 * x + l < 1072 by omega)
    · exact e 118 _ (show 16 * x + l < 1072 by omega)
    · exact e 119 _ (show 16 * x + l < 1072 by omega)
  · rcases ha with rfl | rfl | rfl
    · exact e 120 _ (show 4 * (16 * x + l) + j < 4288 by omega)
    · exact e 121 _ (show 4 * (16 * x + l) + j < 4288 by omega)
    · exact e 122 _ (show 4 * (16 * x + l) + j < 4288 by omega)
theorem Bk.ix (e : EQx V V') {h : mS} {I : mI} {b : Nat} (w : Wf V) (k : Bk h I b V) : Bk h I b V' := by
  have n20 := w.P.n20
  have n30 := w.M.n30
  have q5 : ∀ i, i < 240 → V' 105 i = V 105 i := fun i hi => e 105 i hi
  have q9 : ∀ i, i < 25 → V' 89 i = V 89 i := fun i hi => e 89 i hi
  have tr : ∀ {t x : Nat}, x < 67 → TR h I V t x → TR h I V' t x := fun hx ⟨nl, t⟩ => ⟨nl, TRn.ix e w.T t hx⟩
  refine ⟨⟨by rw [e 88 0 (by decide)]; exact k.S.y, by rw [e 85 0 (by decide)]; exact k.S.t, by rw [e 86 0 (by decide)]; exact k.S.f, by rw [e 87 0 (by decide)]; exact k.S.p, fun i hi => ?_⟩, ⟨by rw [e 90 0 (by decide)]; exact k.H.n, fun i hi => by rw [e 91 i hi]; exact k.H.clan i hi, fun i hi => by rw [e 92 i hi]; exact k.H.vil i hi, fun i hi => by rw [e 93 i hi]; exact k.H.coin i hi, fun i hi => by rw [e 94 i hi]; exact k.H.feud i hi⟩, ⟨by rw [e 95 0 (by decide)]; exact k.P.n, fun i hi => by rw [e 96 i hi]; exact k.P.hou i hi, fun i hi => by rw [e 97 i hi]; exact k.P.kin i hi, fun i hi => by rw [e 98 i hi]; exact k.P.sta i hi, fun i hi => by rw [e 99 i hi]; exact k.P.bor i hi, fun i hi => by rw [e 101 i hi]; exact k.P.spo i hi, fun i hi => ?_, fun i hi => by rw [e 102 i hi]; exact k.P.wid i hi, fun i hi => ?_, k.P.alz, k.P.waz⟩, ⟨fun i hi => ?_, trivial⟩, ⟨by rw [e 104 0 (by decide)]; exact k.N.n, fun i hi => by rw [q5 _ (by omega)]; exact k.N.chi i hi, fun i hi => by rw [q5 _ (by omega)]; exact k.N.par i hi, fun i hi => by rw [q5 _ (by omega)]; exact k.N.at i hi, fun i hi => by rw [q5 _ (by omega)]; exact k.N.in i hi, fun a c ha hc hne => by rw [q9 _ (by omega)]; exact k.N.ro a c ha hc hne, k.N.di, fun a v ha hv => by rw [e.wy]; exact k.N.wy a v ha hv⟩, ⟨by rw [e 106 0 (by decide)]; exact k.M.n, fun m hm => by rw [e 107 m hm]; exact k.M.bri m hm, fun m hm => by rw [e 108 m hm]; exact k.M.gro m hm, fun m hm => by rw [e 109 m hm]; exact k.M.sta m hm, fun m hm => by rw [e 110 m hm]; exact k.M.gif m hm, fun m hm => by rw [e 111 m hm]; exact k.M.bac m hm, fun m hm => by rw [e 112 m hm]; exact k.M.pai m hm, fun m hm => by rw [e 113 m hm]; exact k.M.ask m hm, fun m hm => by rw [e 114 m hm]; exact k.M.sin m hm, fun m j hm h2 hj h6 => ?_⟩, ⟨fun x hx => ?_, fun m hm h2 => ?_, k.X.a, k.X.b⟩⟩
  · rw [e.cT] at hi
    have := w.S.t5
    rw [e 84 i (show i < 500 by omega)]; exact k.S.tape i hi
  · rw [e.cP] at hi; rw [e 100 i (show i < 20 by omega)]; exact k.P.ali i hi
  · rw [e.cP] at hi; rw [e 97 i (show i < 20 by omega), e 103 i (show i < 20 by omega)]; exact k.P.was i hi
  · rw [e.cP] at hi; rw [e.opA w.M]; exact k.O.op i hi
  · rw [e.cM] at hm
    rw [e 109 m (show m < 30 by omega)] at h2
    rw [e 115 _ (show 11 * m + j < 330 by omega)]; exact k.M.fac m j hm h2 hj h6
  · obtain ⟨t, g1, g2⟩ := k.X.tx x hx
    exact ⟨t, g1, tr (by omega) g2⟩
  · rw [e.cM] at hm
    rw [e 109 m (show m < 30 by omega)] at h2
    obtain ⟨t, u, g1, g2, g3, g4⟩ := k.X.wt m hm h2
    exact ⟨t, u, g1, tr (by omega) g2, g3, tr (by omega) g4⟩
end IX
/-! slots of the reference's rows -/
def slV (V : mI) (s : Nat) : mI := fun a i => V a (sz a * s + i)
def cpS (V : mI) (f t n : Nat) : mI := fun a i => if 84 ≤ a ∧ a < n ∧ sz a * t ≤ i ∧ i < sz a * t + sz a then V a (sz a * f + (i - sz a * t)) else V a i
theorem cpS_0 {V : mI} {f t : Nat} : cpS V f t 84 = V := by
  funext a i; unfold cpS; rw [if_neg (by omega)]
/-- the slot that is written is the other -/
theorem cpS_t {V : mI} {f t : Nat} : EQx (slV V f) (slV (cpS V f t 123) t) := fun a i hi => by
  unfold slV cpS
  have ha : 84 ≤ a ∧ a < 123 := by
    unfold sz at hi
    repeat' (first | (split at hi) | omega)
  rw [if_pos (by omega)]
  congr 1; omega
/-- the others stay -/
theorem cpS_o {V : mI} {f t s : Nat} (h : s ≠ t) : EQx (slV V s) (slV (cpS V f t 123) s) := fun a i hi => by
  unfold slV cpS
  rw [if_neg]
  rintro ⟨-, -, h1, h2⟩
  have : sz a * s + i < sz a * (s + 1) := by rw [Nat.mul_succ]; omega
  rcases Nat.lt_or_gt_of_ne h with c | c
  · have : sz a * (s + 1) ≤ sz a * t := Nat.mul_le_mul_left _ c
    omega
  · have : sz a * (t + 1) ≤ sz a * s := Nat.mul_le_mul_left _ c
    rw [Nat.mul_succ] at this
    omega
theorem sl_0 {V : mI} : slV V 0 = V := by funext a i; unfold slV; rw [Nat.mul_zero, Nat.zero_add]
