/-! the component reads a custom -/
theorem lnH_cg {V : mI} {r : Nat} {f f' : Nat → Int32} (h : ∀ j, j < tcn V r → f (wN V (4 * r + j)) = f' (wN V (4 * r + j))) : lnH V r f ↔ lnH V r f' := by
  unfold lnH tsF
  constructor
  · intro g j hj; rw [← h j hj]; exact g j hj
  · intro g j hj; rw [h j hj]; exact g j hj
theorem rdF_cg {V : mI} {x : Nat} {f f' : Nat → Int32} {n : Nat} (h : ∀ l j, l < n → j < tcn V (16 * x + l) → f (wN V (4 * (16 * x + l) + j)) = f' (wN V (4 * (16 * x + l) + j))) : ∀ l, l ≤ n → rdF V x f l = rdF V x f' l := by
  intro l
  induction l with
  | zero => intro _; rfl
  | succ l ih =>
    intro hl
    rw [rdF, rdF, ih (by omega)]
    have := lnH_cg (V := V) (r := 16 * x + l) (f := f) (f' := f') (fun j hj => h l j (by omega) hj)
    by_cases c : lnH V (16 * x + l) f
    · rw [cif_t c, cif_t (this.mp c)]
    · rw [cif_f c, cif_f (fun e => c (this.mpr e))]
def f6 (f : Nat → Int32) (k : Int32) : Nat → Int32 := fun j => if j = 6 then k else f j
theorem rdA_kin {V : mI} (w : Wf V) {x : Nat} (hx : x < 67) {f f' : Nat → Int32} (hf : ∀ j, j < 11 → j ≠ 6 → f j = f' j) (hk : ¬ akA V x ∨ f 6 = f' 6) : rdA V x f = rdA V x f' := by
  unfold rdA
  obtain ⟨nl, h17, e116⟩ := w.T.li x hx
  refine rdF_cg (n := (V 116 x).toNatClampNeg) (fun l j hl hj => ?_) _ (Nat.le_refl _)
  rw [e116, nI_clamp (by omega)] at hl
  have t5 := (tcn_ok w (r := 16 * x + l) (by omega)).1
  obtain ⟨g1, g2⟩ := wN_ok w (q := 4 * (16 * x + l) + j) (by omega)
  by_cases e : wN V (4 * (16 * x + l) + j) = 6
  · rcases hk with c | c
    · exact absurd ⟨l, j, by rw [e116, nI_clamp (by omega)]; exact hl, hj, by rw [g2, e]; rfl⟩ c
    · rw [e]; exact c
  · exact hf _ g1 e
section RC
variable {E : Envt} {d : Nat} {Q : Pst} {h : mS} {I V : mI} {L : mL}
theorem c_readLoop (hs : SL h) (w : Wf V) {t x nl : Nat} {f : Nat → Int32} {x2 : Int32} (hx : x < 67) (hx5 : x ≠ 5) (hx6 : x ≠ 6) (hlo : t = 38 ∨ 147 ≤ t) (wt : TRn h I V t x nl) (hf : ∀ j, j < 11 → I 64 j = f j) (hfl : ∀ j, j < 5 → bz (f j))
    (h5 : I 63 5 = (-1)) (h6 : I 63 6 = 0) (h7 : I 63 7 = 0)
    (hQ : ∀ I', (∀ a, a ≠ 63 → I' a = I a) → (∀ j, j < 5 ∨ 7 < j → I' 63 j = I 63 j) → I' 63 5 = (rdA V x f).1 → I' 63 6 = (rdA V x f).2.1 → I' 63 7 = (rdA V x f).2.2.1 → Q none h I' L) :
    (J E mX2_readBy (d + 4) Q 0 0 54 [some (.ref (eB E + 63)), some (.ref (eB E + t)), some (.int x2), some (.int 0)] [] h I L) := by
  have l16 := wt.l16
  have enl : (V 116 x).toNatClampNeg = nl := by rw [wt.v, nI_clamp (by omega)]
  unfold rdA at hQ
  rw [enl] at hQ
  have K : ∀ l, l ≤ nl → ∀ I1, (∀ a, a ≠ 63 → I1 a = I a) → (∀ j, j < 5 ∨ 7 < j → I1 63 j = I 63 j) → I1 63 5 = (rdF V x f l).1 → I1 63 6 = (rdF V x f l).2.1 → I1 63 7 = (rdF V x f l).2.2.1 → (J E mX2_readBy (d + 4) Q 0 0 54 [some (.ref (eB E + 63)), some (.ref (eB E + t)), some (.int x2), some (.int (nI l))] [] h I1 L) := by
    have wt1 : ∀ I1, (∀ a, a ≠ 63 → I1 a = I a) → TRn h I1 V t x nl := fun I1 f1 => wt.cg (fun a h1 h2 => f1 a (by omega))
    refine dn nl ?_ ?_
    · intro I1 f1 f2 g1 g2 g3
      refine w_X2_readBy_54 hs wt.LT _ _ (br_t ?_ (hQ I1 f1 f2 g1 g2 g3))
      rw [(wt1 I1 f1).n]; exact nI_le (Nat.le_refl _) (by omega)
    · intro l hl ih I1 f1 f2 g1 g2 g3
      refine w_X2_readBy_54 hs wt.LT _ _ (br_f (by rw [(wt1 I1 f1).n]; exact nI_ge hl (by omega)) ?_)
      rw [nI_1]
      refine c_holds hs w (wt1 I1 f1) hx hl (f := f) (by rw [f1 64 (by decide)]; exact hf) hfl ⟨rfl, rfl, _, rfl, ?_⟩
      by_cases c : lnH V (16 * x + l) f
      · rw [cif_t c]
        refine br_f (by decide) ?_
        have e : rdF V x f (l + 1) = rdU V (16 * x + l) l (rdF V x f l) := cif_t c
        rw [e] at ih
        refine w_X2_obey hs _ wt.LT ⟨vp_in_nI (by omega) (by omega), ?_⟩
        rw [nI_clamp (by omega), (wt1 I1 f1).ac l hl, (wt1 I1 f1).nu l hl, g1, g2]
        unfold rdU at ih
        rcases w.T.ac x l hx (by omega) hx5 hx6 with e | e | e
        · rw [e] at ih ⊢
          refine ⟨fun _ => ⟨rfl, rfl, rfl, ih _ (fun a ha => by rw [uI_ne ha]; exact f1 a ha) (fun j hj => by rw [uI_nj (by omega)]; exact f2 j hj) ?_ ?_ ?_⟩, fun e => absurd e (by decide), fun e => absurd rfl e⟩
          · rw [uI_eq, if_pos rfl]
          · rw [uI_nj (by decide), g2]; exact (show _ = _ + (if (0 : Int32) = 1 then _ else 0) by rw [if_neg (by decide)]; simp)
          · rw [uI_nj (by decide), g3]; dsimp only; rw [if_neg (show ¬ (0 : Int32) = 2 by decide)]
        · rw [e] at ih ⊢
          refine ⟨fun e => absurd e (by decide), fun _ => ⟨rfl, rfl, rfl, ih _ (fun a ha => by rw [uI_ne ha]; exact f1 a ha) (fun j hj => by rw [uI_nj (by omega)]; exact f2 j hj) ?_ ?_ ?_⟩, fun _ e => absurd rfl e⟩
          · rw [uI_nj (by decide), g1]; dsimp only; rw [if_neg (show ¬ (1 : Int32) = 0 by decide)]
          · rw [uI_eq, if_pos rfl]
          · rw [uI_nj (by decide), g3]; dsimp only; rw [if_neg (show ¬ (1 : Int32) = 2 by decide)]
        · rw [e] at ih ⊢
          refine ⟨fun e => absurd e (by decide), fun e => absurd e (by decide), fun _ _ => ⟨rfl, rfl, rfl, ih _ (fun a ha => by rw [uI_ne ha]; exact f1 a ha) (fun j hj => by rw [uI_nj (by omega)]; exact f2 j hj) ?_ ?_ ?_⟩⟩
          · rw [uI_nj (by decide), g1]; dsimp only; rw [if_neg (show ¬ (2 : Int32) = 0 by decide)]
          · rw [uI_nj (by decide), g2]; exact (show _ = _ + (if (2 : Int32) = 1 then _ else 0) by rw [if_neg (by decide)]; simp)
          · rw [uI_eq]; dsimp only; rw [if_pos rfl]
      · rw [cif_f c]
        have e : rdF V x f (l + 1) = rdF V x f l := cif_f c
        rw [e] at ih
        exact br_t rfl (ih I1 f1 f2 g1 g2 g3)
  exact K 0 (by omega) I (fun _ _ => rfl) (fun _ _ => rfl) h5 h6 h7
theorem yr_ok {V : mI} (w : Wf V) : ¬ V 88 0 = (-1) := by
  have := w.S.y3
  rw [w.S.y]; exact m1_nI (by omega)
theorem c_readBy (q : CQ h I V) {t x nl v b g : Nat} {f : Nat → Int32} (hx : x < 67) (hx5 : x ≠ 5) (hx6 : x ≠ 6) (wt : TRn h I V t x nl) (hv : v < 5) (hb : b < cP V) (hg : g < cP V) (h2 : I 63 2 = nI b) (h3 : I 63 3 = nI g)
    (hf : ∀ j, j < 11 → j ≠ 6 → I 64 j = f j) (hfl : ∀ j, j < 5 → bz (f j))
    (hQ : ∀ I', JFr I I' → Kc I' V → (∀ j, j < 5 ∨ 7 < j → I' 63 j = I 63 j) → (∀ j, j ≠ 6 → I' 64 j = I 64 j) → I' 63 5 = (rdA V x (f6 f (kiA V v (V 88 0) b g))).1 → I' 63 6 = (rdA V x (f6 f (kiA V v (V 88 0) b g))).2.1 → I' 63 7 = (rdA V x (f6 f (kiA V v (V 88 0) b g))).2.2.1 → Q none h I' L) :
    (CT E mX2_readBy (d + 4) 0 0 [.ref (eB E + 63), .ref (eB E + t), .int (nI v)] h I L Q) := by
  refine w_X2_readBy q.s _ wt.LT ?_
  refine c_asksKin q.s q.w wt hx ⟨rfl, rfl, _, rfl, ?_⟩
  by_cases ca : akA V x
  · rw [cif_t ca]
    refine br_f (by decide) ?_
    rw [h2, h3, bS_y q.b]
    refine c_steps q hb hg hv (yr_ok q.w) (fun I1 k1 k2 => ⟨rfl, rfl, _, rfl, ?_⟩)
    have kj : ∀ a, a ≠ 63 → a < 56 ∨ 62 < a → I1 a = I a := fun a _ h2 => k1.1 a h2
    refine c_readLoop (f := f6 f (kiA V v (V 88 0) b g)) q.s q.w hx hx5 hx6 wt.lo (wt.cg (fun a h1 h2 => ?_)) (fun j hj => ?_) (fun j hj => ?_) ?_ ?_ ?_ (fun I' f1 f2 g1 g2 g3 => hQ I' (fun a ha => ?_) (k2.cg ?_ ?_) (fun j hj => ?_) (fun j hj => ?_) g1 g2 g3)
    · have := wt.lo
      rw [uI_ne (by omega), uI_ne (by omega), uI_ne (by omega), uI_ne (by omega)]; exact k1.1 a (by omega)
    · simp (disch := decide) only [uI_ne]
      unfold f6
      by_cases e : j = 6
      · rw [e, uI_eq, if_pos rfl]
      · rw [uI_nj e, if_neg e, k1.1 64 (by decide)]; exact hf j hj e
    · unfold f6; rw [if_neg (by omega)]; exact hfl j hj
    · simp (disch := decide) only [uI_eq, uI_nj]
    · simp (disch := decide) only [uI_eq, uI_nj]
    · simp (disch := decide) only [uI_eq, uI_nj]
    · rw [f1 a (by omega), uI_ne (by omega), uI_ne (by omega), uI_ne (by omega), uI_ne (by omega)]; exact k1.1 a (by omega)
    · rw [f1 57 (by decide)]; simp (disch := decide) only [uI_ne]
    · rw [f1 58 (by decide)]; simp (disch := decide) only [uI_ne]
    · rw [f2 j hj, uI_nj (by omega), uI_nj (by omega), uI_nj (by omega), uI_ne (by decide)]; exact congrFun (k1.1 63 (by decide)) j
    · rw [f1 64 (by decide)]; simp (disch := decide) only [uI_ne]; rw [uI_nj hj]; exact congrFun (k1.1 64 (by decide)) j
  · rw [cif_f ca]
    refine br_t rfl ?_
    have er : rdA V x (f6 f (kiA V v (V 88 0) b g)) = rdA V x (I 64) := rdA_kin q.w hx (fun j hj h6 => by unfold f6; rw [if_neg h6]; exact (hf j hj h6).symm) (Or.inl ca)
    rw [er] at hQ
    refine c_readLoop (f := I 64) q.s q.w hx hx5 hx6 wt.lo (wt.cg (fun a h1 h2 => ?_)) (fun j hj => ?_) (fun j hj => ?_) ?_ ?_ ?_ (fun I' f1 f2 g1 g2 g3 => hQ I' (fun a ha => ?_) (q.k.cg ?_ ?_) (fun j hj => ?_) (fun j hj => ?_) g1 g2 g3)
    · have := wt.lo
      rw [uI_ne (by omega), uI_ne (by omega), uI_ne (by omega)]
    · simp (disch := decide) only [uI_ne]
    · rw [hf j (by omega) (by omega)]; exact hfl j hj
    · simp (disch := decide) only [uI_eq, uI_nj]
    · simp (disch := decide) only [uI_eq, uI_nj]
    · simp (disch := decide) only [uI_eq, uI_nj]
    · rw [f1 a (by omega), uI_ne (by omega), uI_ne (by omega), uI_ne (by omega)]
    · rw [f1 57 (by decide)]; simp (disch := decide) only [uI_ne]
    · rw [f1 58 (by decide)]; simp (disch := decide) only [uI_ne]
    · rw [f2 j hj, uI_nj (by omega), uI_nj (by omega), uI_nj (by omega)]
    · rw [f1 64 (by decide)]; simp (disch := decide) only [uI_ne]
end RC
