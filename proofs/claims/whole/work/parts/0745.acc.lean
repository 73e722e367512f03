/-! the component's book at 1; congruence -/
theorem bS_y {h : mS} {I : mI} {V : mI} (w : Bk h I 1 V) : I 1 0 = V 88 0 := w.S.y
theorem bS_t {h : mS} {I : mI} {V : mI} (w : Bk h I 1 V) : I 1 7 = V 85 0 := w.S.t
theorem bS_f {h : mS} {I : mI} {V : mI} (w : Bk h I 1 V) : I 1 8 = V 86 0 := w.S.f
theorem bS_p {h : mS} {I : mI} {V : mI} (w : Bk h I 1 V) : I 1 9 = V 87 0 := w.S.p
theorem bS_tape {h : mS} {I : mI} {V : mI} (w : Bk h I 1 V) : ∀ i, i < cT V → I 37 i = V 84 i := w.S.tape
theorem bH_n {h : mS} {I : mI} {V : mI} (w : Bk h I 1 V) : I 2 0 = V 90 0 := w.H.n
theorem bH_clan {h : mS} {I : mI} {V : mI} (w : Bk h I 1 V) : ∀ i, i < 8 → I 3 i = V 91 i := w.H.clan
theorem bH_vil {h : mS} {I : mI} {V : mI} (w : Bk h I 1 V) : ∀ i, i < 8 → I 4 i = V 92 i := w.H.vil
theorem bH_coin {h : mS} {I : mI} {V : mI} (w : Bk h I 1 V) : ∀ i, i < 8 → I 5 i = V 93 i := w.H.coin
theorem bH_feud {h : mS} {I : mI} {V : mI} (w : Bk h I 1 V) : ∀ i, i < 8 → I 6 i = V 94 i := w.H.feud
theorem bP_n {h : mS} {I : mI} {V : mI} (w : Bk h I 1 V) : I 7 0 = V 95 0 := w.P.n
theorem bP_hou {h : mS} {I : mI} {V : mI} (w : Bk h I 1 V) : ∀ i, i < 20 → I 8 i = V 96 i := w.P.hou
theorem bP_kin {h : mS} {I : mI} {V : mI} (w : Bk h I 1 V) : ∀ i, i < 20 → I 9 i = V 97 i := w.P.kin
theorem bP_sta {h : mS} {I : mI} {V : mI} (w : Bk h I 1 V) : ∀ i, i < 20 → I 10 i = V 98 i := w.P.sta
theorem bP_bor {h : mS} {I : mI} {V : mI} (w : Bk h I 1 V) : ∀ i, i < 20 → I 11 i = V 99 i := w.P.bor
theorem bP_spo {h : mS} {I : mI} {V : mI} (w : Bk h I 1 V) : ∀ i, i < 20 → I 12 i = V 101 i := w.P.spo
theorem bP_ali {h : mS} {I : mI} {V : mI} (w : Bk h I 1 V) : ∀ i, i < cP V → I 14 i = if V 100 i = 0 then 1 else 0 := w.P.ali
theorem bP_wid {h : mS} {I : mI} {V : mI} (w : Bk h I 1 V) : ∀ i, i < 20 → I 15 i = V 102 i := w.P.wid
theorem bP_was {h : mS} {I : mI} {V : mI} (w : Bk h I 1 V) : ∀ i, i < cP V → V 97 i = 0 → I 16 i = V 103 i := w.P.was
theorem bP_alz {h : mS} {I : mI} {V : mI} (w : Bk h I 1 V) : ∀ i, i < 20 → bz (I 14 i) := w.P.alz
theorem bP_waz {h : mS} {I : mI} {V : mI} (w : Bk h I 1 V) : ∀ i, i < 20 → bz (I 16 i) := w.P.waz
theorem bO_op {h : mS} {I : mI} {V : mI} (w : Bk h I 1 V) : ∀ i, i < cP V → I 13 i = opA V i := w.O.op
theorem bN_n {h : mS} {I : mI} {V : mI} (w : Bk h I 1 V) : I 17 0 = V 104 0 := w.N.n
theorem bN_chi {h : mS} {I : mI} {V : mI} (w : Bk h I 1 V) : ∀ k, k < 60 → I 18 k = V 105 (4 * k) := w.N.chi
theorem bN_par {h : mS} {I : mI} {V : mI} (w : Bk h I 1 V) : ∀ k, k < 60 → I 19 k = V 105 (4 * k + 1) := w.N.par
theorem bN_at {h : mS} {I : mI} {V : mI} (w : Bk h I 1 V) : ∀ k, k < 60 → I 20 k = V 105 (4 * k + 2) := w.N.at
theorem bN_in {h : mS} {I : mI} {V : mI} (w : Bk h I 1 V) : ∀ k, k < 60 → I 21 k = V 105 (4 * k + 3) := w.N.in
theorem bN_ro {h : mS} {I : mI} {V : mI} (w : Bk h I 1 V) : ∀ a c, a < 5 → c < 5 → a ≠ c → I 22 (5 * a + c) = V 89 (5 * a + c) := w.N.ro
theorem bN_di {h : mS} {I : mI} {V : mI} (w : Bk h I 1 V) : ∀ a, a < 5 → I 22 (5 * a + a) = 0 := w.N.di
theorem bN_wy {h : mS} {I : mI} {V : mI} (w : Bk h I 1 V) : ∀ a v, a < 5 → v < 5 → I 23 (5 * a + v) = wyA V a v := w.N.wy
theorem bM_n {h : mS} {I : mI} {V : mI} (w : Bk h I 1 V) : I 24 0 = V 106 0 := w.M.n
theorem bM_bri {h : mS} {I : mI} {V : mI} (w : Bk h I 1 V) : ∀ m, m < 30 → I 25 m = V 107 m := w.M.bri
theorem bM_gro {h : mS} {I : mI} {V : mI} (w : Bk h I 1 V) : ∀ m, m < 30 → I 26 m = V 108 m := w.M.gro
theorem bM_sta {h : mS} {I : mI} {V : mI} (w : Bk h I 1 V) : ∀ m, m < 30 → I 27 m = V 109 m := w.M.sta
theorem bM_gif {h : mS} {I : mI} {V : mI} (w : Bk h I 1 V) : ∀ m, m < 30 → I 28 m = V 110 m := w.M.gif
theorem bM_bac {h : mS} {I : mI} {V : mI} (w : Bk h I 1 V) : ∀ m, m < 30 → I 29 m = V 111 m := w.M.bac
theorem bM_pai {h : mS} {I : mI} {V : mI} (w : Bk h I 1 V) : ∀ m, m < 30 → I 30 m = V 112 m := w.M.pai
theorem bM_ask {h : mS} {I : mI} {V : mI} (w : Bk h I 1 V) : ∀ m, m < 30 → I 31 m = V 113 m := w.M.ask
theorem bM_sin {h : mS} {I : mI} {V : mI} (w : Bk h I 1 V) : ∀ m, m < 30 → I 32 m = V 114 m := w.M.sin
theorem bM_fac {h : mS} {I : mI} {V : mI} (w : Bk h I 1 V) : ∀ m j, m < cM V → V 109 m = 2 → j < 11 → j ≠ 6 → I 33 (11 * m + j) = V 115 (11 * m + j) := w.M.fac
theorem BkS.cg {I I' : mI} {b : Nat} {V : mI} (w : BkS I b V) (e : ∀ a, b ≤ a → a ≤ b + 36 → I' a = I a) : BkS I' b V := by
  unfold BkS at w ⊢
  simp only [e b (by omega) (by omega), e (b + 36) (by omega) (by omega)]
  exact w
theorem BkH.cg {I I' : mI} {b : Nat} {V : mI} (w : BkH I b V) (e : ∀ a, b ≤ a → a ≤ b + 36 → I' a = I a) : BkH I' b V := by
  unfold BkH at w ⊢
  simp only [e (b + 1) (by omega) (by omega), e (b + 2) (by omega) (by omega), e (b + 3) (by omega) (by omega), e (b + 4) (by omega) (by omega), e (b + 5) (by omega) (by omega)]
  exact w
theorem BkP.cg {I I' : mI} {b : Nat} {V : mI} (w : BkP I b V) (e : ∀ a, b ≤ a → a ≤ b + 36 → I' a = I a) : BkP I' b V := by
  unfold BkP at w ⊢
  simp only [e (b + 6) (by omega) (by omega), e (b + 7) (by omega) (by omega), e (b + 8) (by omega) (by omega), e (b + 9) (by omega) (by omega), e (b + 10) (by omega) (by omega), e (b + 11) (by omega) (by omega), e (b + 13) (by omega) (by omega), e (b + 14) (by omega) (by omega), e (b + 15) (by omega) (by omega)]
  exact w
theorem BkO.cg {I I' : mI} {b : Nat} {V : mI} (w : BkO I b V) (e : ∀ a, b ≤ a → a ≤ b + 36 → I' a = I a) : BkO I' b V := by
  unfold BkO at w ⊢
  simp only [e (b + 12) (by omega) (by omega)]
  exact w
theorem BkN.cg {I I' : mI} {b : Nat} {V : mI} (w : BkN I b V) (e : ∀ a, b ≤ a → a ≤ b + 36 → I' a = I a) : BkN I' b V := by
  unfold BkN at w ⊢
  simp only [e (b + 16) (by omega) (by omega), e (b + 17) (by omega) (by omega), e (b + 18) (by omega) (by omega), e (b + 19) (by omega) (by omega), e (b + 20) (by omega) (by omega), e (b + 21) (by omega) (by omega), e (b + 22) (by omega) (by omega)]
  exact w
theorem BkM.cg {I I' : mI} {b : Nat} {V : mI} (w : BkM I b V) (e : ∀ a, b ≤ a → a ≤ b + 36 → I' a = I a) : BkM I' b V := by
  unfold BkM at w ⊢
  simp only [e (b + 23) (by omega) (by omega), e (b + 24) (by omega) (by omega), e (b + 25) (by omega) (by omega), e (b + 26) (by omega) (by omega), e (b + 27) (by omega) (by omega), e (b + 28) (by omega) (by omega), e (b + 29) (by omega) (by omega), e (b + 30) (by omega) (by omega), e (b + 31) (by omega) (by omega), e (b + 32) (by omega) (by omega)]
  exact w
