/-! liking -/
def bN (V : mI) (p o : Nat) : Nat := if V 97 p = 0 then p else o
def gN (V : mI) (p o : Nat) : Nat := if V 97 p = 0 then o else p
noncomputable def lkF (V : mI) (p o : Nat) : Nat → Int32 := fun j => if j = 10 then V 93 (hN V o) else faA V (bN V p o) (gN V p o) (kiA V (vN V p) (V 88 0) (bN V p o) (gN V p o)) j
noncomputable def lkA (V : mI) (p o : Nat) : Int32 := (rdA V (5 + (V 97 p).toNatClampNeg) (lkF V p o)).2.2.2
section LK
variable {E : Envt} {d : Nat} {Q : Pst} {h : mS} {I V : mI} {L : mL}
theorem kd_ok (w : Wf V) {p : Nat} (hp : p < 20) : (V 97 p).toNatClampNeg < 2 ∧ V 97 p = nI (V 97 p).toNatClampNeg := by
  rcases w.P.kin p hp with e | e <;> rw [e] <;> exact ⟨by decide, by decide⟩
theorem c_likeLoop (hs : SL h) (w : Wf V) {t x nl : Nat} {f : Nat → Int32} {x1 x2 x4 : Int32} (hx : x = 5 ∨ x = 6) (wt : TRn h I V t x nl) (hf : ∀ j, j < 11 → I 64 j = f j) (hfl : ∀ j, j < 5 → bz (f j))
    (hQ : Q (some (.int (rdA V x f).2.2.2)) h I L) : (J E mX2_likes (d + 4) Q 0 0 141 [some (.ref (eB E + 63)), some (.int x1), some (.int x2), some (.ref (eB E + 7)), some (.int x4), some (.ref (eB E + t)), some (.int 0), some (.int 0)] [] h I L) := by
  have l16 := wt.l16
  have enl : (V 116 x).toNatClampNeg = nl := by rw [wt.v, nI_clamp (by omega)]
  unfold rdA at hQ
  rw [enl] at hQ
  have K : ∀ l, l ≤ nl → (J E mX2_likes (d + 4) Q 0 0 141 [some (.ref (eB E + 63)), some (.int x1), some (.int x2), some (.ref (eB E + 7)), some (.int x4), some (.ref (eB E + t)), some (.int ((rdF V x f l).2.2.2)), some (.int (nI l))] [] h I L) := by
    refine dn nl ?_ ?_
    · refine w_X2_likes_141 hs wt.LT _ _ _ _ _ (br_t ?_ hQ)
      rw [wt.n]; exact nI_le (Nat.le_refl _) (by omega)
    · intro l hl ih
      refine w_X2_likes_141 hs wt.LT _ _ _ _ _ (br_f (by rw [wt.n]; exact nI_ge hl (by omega)) ?_)
      rw [nI_1]
      refine c_holds hs w wt (by omega) hl (f := f) hf hfl (qi_i ⟨fun _ => vp_in_nI hl (by omega), ?_⟩)
      rintro y8 rfl
      rw [nI_clamp (by omega), wt.ac l hl, wt.nu l hl]
      by_cases c : lnH V (16 * x + l) f
      · have e : rdF V x f (l + 1) = rdU V (16 * x + l) l (rdF V x f l) := cif_t c
        rw [e] at ih
        unfold rdU at ih
        dsimp only at ih
        rw [cif_t c, if_neg (show ¬ (1 : Int32) = 0 by decide)]
        rcases w.T.aw x l hx (by omega) (by rw [wt.v]; exact nI_lt hl (by omega)) with e | e
        · rw [e] at ih ⊢
          rw [if_neg (show ¬ (3 : Int32) = 4 by decide)]
          rw [if_pos rfl] at ih
          exact ih
        · rw [e] at ih ⊢
          rw [if_pos rfl]
          rw [if_neg (show ¬ (4 : Int32) = 3 by decide), if_pos rfl] at ih
          exact ih
      · have e : rdF V x f (l + 1) = rdF V x f l := cif_f c
        rw [e] at ih
        rw [cif_f c, if_pos rfl]
        exact ih
  exact K 0 (by omega)
theorem lkF_z (w : Wf V) {p o : Nat} (hp : p < 20) (ho : o < 20) : ∀ j, j < 5 → bz (lkF V p o j) := by
  intro j hj
  unfold lkF
  rw [if_neg (by omega)]
  refine fa_z w ?_ j hj
  unfold bN; split <;> assumption
theorem c_likes (q : CQ h I V) {p o : Nat} (hp : p < cP V) (ho : o < cP V) (hQ : ∀ I', JFr I I' → Kc I' V → Q (some (.int (lkA V p o))) h I' L) : (CT E mX2_likes (d + 4) 0 0 [.ref (eB E + 63), .int (nI p), .int (nI o)] h I L Q) := by
  have n20 := q.w.P.n20
  obtain ⟨k2, ek⟩ := kd_ok q.w (p := p) (by omega)
  obtain ⟨ho8, eho⟩ := hN_ok q.w (p := o) (by omega)
  obtain ⟨hp8, ehp⟩ := hN_ok q.w (p := p) (by omega)
  obtain ⟨vp5, evp⟩ := vN_ok q.w (p := p) (by omega)
  have ex5 : 5 + V 97 p = nI (5 + (V 97 p).toNatClampNeg) := by rw [ek, N5, nI_add, nI_clamp (by omega)]
  have ebN : (if V 97 p = 0 then nI p else nI o : Int32) = nI (bN V p o) := by unfold bN; split <;> rfl
  have egN : (if V 97 p = 0 then nI o else nI p : Int32) = nI (gN V p o) := by unfold gN; split <;> rfl
  have hbN : bN V p o < cP V := by unfold bN; split <;> assumption
  have hgN : gN V p o < cP V := by unfold gN; split <;> assumption
  refine w_X2_likes q.s _ _ ?_
  rw [nI_clamp (show p < 2 ^ 31 by omega), nI_clamp (show o < 2 ^ 31 by omega), bP_kin q.b p (by omega), ex5, ebN, egN, nI_clamp (by omega)]
  obtain ⟨t, h1, nl, wt⟩ := q.b.X.tx (5 + (V 97 p).toNatClampNeg) (by omega)
  refine ⟨vp_in_nI (by omega) (by decide), vp_in_nI (by omega) (by decide), t, h1, ?_⟩
  refine c_face q hbN hgN (fun I1 f1 g2 g3 g6 gf g63 => qv_i ⟨vp_in_nI (by omega) (by decide), ?_⟩)
  have q1 : CQ h I1 V := q.fk (fun a ha => f1 a (by omega) (by omega))
  rw [bP_hou q1.b o (by omega), eho, nI_clamp (show hN V o < 2 ^ 31 by omega), bH_coin q1.b _ ho8]
  refine ⟨vp_in_nI (by omega) (by decide), nl, _, wt.LT, ?_⟩
  have hlo := wt.lo
  have q2 : CQ h (uI I1 64 10 (V 93 (hN V o))) V := q1.fk (fun a ha => uI_ne (by omega))
  have wt2 : TRn h (uI I1 64 10 (V 93 (hN V o))) V t (5 + (V 97 p).toNatClampNeg) nl := wt.cg (fun a h1 h2 => by rw [uI_ne (by omega)]; exact f1 a (by omega) (by omega))
  refine c_asksKin q.s q.w wt2 (by omega) (qi_i ?_)
  have er : ∀ f', (∀ j, j < 11 → j ≠ 6 → f' j = lkF V p o j) → (¬ akA V (5 + (V 97 p).toNatClampNeg) ∨ f' 6 = lkF V p o 6) → (rdA V (5 + (V 97 p).toNatClampNeg) f').2.2.2 = lkA V p o := fun f' h1 h2 => by
    unfold lkA
    rw [rdA_kin q.w (by omega) h1 h2]
  have e64 : ∀ j, j < 11 → j ≠ 6 → uI I1 64 10 (V 93 (hN V o)) 64 j = lkF V p o j := by
    intro j hj h6
    unfold lkF
    by_cases e : j = 10
    · rw [e, uI_eq, if_pos rfl]
    · rw [uI_nj e, if_neg e, gf j hj h6]; exact (fa_k h6).symm
  by_cases ca : akA V (5 + (V 97 p).toNatClampNeg)
  · rw [cif_t ca]
    refine br_f (by decide) ⟨vp_in_nI (by omega) (by decide), ?_⟩
    rw [bP_hou q2.b p (by omega), ehp, nI_clamp (show hN V p < 2 ^ 31 by omega), bH_vil q2.b _ hp8, evp, bS_y q2.b, uI_ne (show (63 : Nat) ≠ 64 by decide), g2, g3]
    refine ⟨vp_in_nI (by omega) (by decide), ?_⟩
    refine c_steps q2 hbN hgN vp5 (yr_ok q.w) (fun I3 k1 k2 => qi_i ?_)
    have fin := hQ (uI I3 64 6 (kiA V (vN V p) (V 88 0) (bN V p o) (gN V p o))) (fun a ha => by rw [uI_ne (by omega), k1.1 a (by omega), uI_ne (by omega)]; exact f1 a (by omega) (by omega)) (k2.cg (uI_ne (by decide)) (uI_ne (by decide)))
    refine c_likeLoop (f := uI I3 64 6 (kiA V (vN V p) (V 88 0) (bN V p o) (gN V p o)) 64) q.s q.w (by omega) (wt2.cg (fun a h1 h2 => by rw [uI_ne (by omega)]; exact k1.1 a (by omega))) (fun _ _ => rfl) (fun j hj => ?_) ?_
    · rw [uI_nj (by omega), k1.1 64 (by decide), e64 j (by omega) (by omega)]; exact lkF_z q.w (by omega) (by omega) j hj
    · rw [er _ (fun j hj h6 => by rw [uI_nj h6, k1.1 64 (by decide)]; exact e64 j hj h6) (Or.inr (by rw [uI_eq]; rfl))]
      exact fin
  · rw [cif_f ca]
    refine br_t rfl ?_
    have fin := hQ (uI I1 64 10 (V 93 (hN V o))) (fun a ha => by rw [uI_ne (by omega)]; exact f1 a (by omega) (by omega)) q2.k
    refine c_likeLoop (f := uI I1 64 10 (V 93 (hN V o)) 64) q.s q.w (by omega) wt2 (fun _ _ => rfl) (fun j hj => ?_) ?_
    · rw [e64 j (by omega) (by omega)]; exact lkF_z q.w (by omega) (by omega) j hj
    · rw [er _ e64 (Or.inl ca)]
      exact fin
theorem m_likingOf (hs : SL h) (w : Wf V) (hV : MV I V) {p o : Nat} (hp : p < cP V) (ho : o < cP V) (hQ : ∀ I', LFr I I' → Q (some (.int (lkA V p o))) h I' L) : (CT E mX12_likingOf (d + 4) 0 0 [.ref (eB E + 83), .int (nI p), .int (nI o)] h I L Q) := by
  have n20 := w.P.n20
  obtain ⟨k2, ek⟩ := kd_ok w (p := p) (by omega)
  obtain ⟨ho8, eho⟩ := hN_ok w (p := o) (by omega)
  obtain ⟨hp8, ehp⟩ := hN_ok w (p := p) (by omega)
  obtain ⟨vp5, evp⟩ := vN_ok w (p := p) (by omega)
  have ex5 : 5 + V 97 p = nI (5 + (V 97 p).toNatClampNeg) := by rw [ek, N5, nI_add, nI_clamp (by omega)]
  have ebN : (if V 97 p = 0 then nI p else nI o : Int32) = nI (bN V p o) := by unfold bN; split <;> rfl
  have egN : (if V 97 p = 0 then nI o else nI p : Int32) = nI (gN V p o) := by unfold gN; split <;> rfl
  have hbN : bN V p o < cP V := by unfold bN; split <;> assumption
  have hgN : gN V p o < cP V := by unfold gN; split <;> assumption
  refine w_X12_likingOf hs _ _ ?_
  rw [nI_clamp (show p < 2 ^ 31 by omega), nI_clamp (show o < 2 ^ 31 by omega), hV 97 (by decide) (by decide), hV 96 (by decide) (by decide), hV 92 (by decide) (by decide), ehp, nI_clamp (show hN V p < 2 ^ 31 by omega), evp, ebN, egN]
  refine ⟨vp_in_nI (by omega) (by decide), ?_⟩
  rintro y3 rfl
  rintro y5 rfl
  refine ⟨vp_in_nI (by omega) (by decide), ?_⟩
  refine m_lookAt hs w hV hbN hgN vp5 (fun I1 l1 p1 s1 => qv_i ⟨vp_in_nI (by omega) (by decide), ?_⟩)
  have hV1 : MV I1 V := hV.fr l1.fr
  rw [hV1 96 (by decide) (by decide), hV1 93 (by decide) (by decide), hV1 97 (by decide) (by decide), eho, nI_clamp (show hN V o < 2 ^ 31 by omega), ex5]
  refine ⟨vp_in_nI (by omega) (by decide), ?_⟩
  have hV2 : MV (uI I1 133 10 (V 93 (hN V o))) V := fun a h1 h2 => by rw [uI_ne (by omega)]; exact hV1 a h1 h2
  refine m_readBy hs w hV2 (by omega) (fun I2 l2 p2 r1 r2 r3 r4 => qv_i ?_)
  rw [r4]
  have e : rdA V (5 + (V 97 p).toNatClampNeg) (uI I1 133 10 (V 93 (hN V o)) 133) = rdA V (5 + (V 97 p).toNatClampNeg) (lkF V p o) := by
    have ee : ∀ j, j < 11 → uI I1 133 10 (V 93 (hN V o)) 133 j = lkF V p o j := by
      intro j hj
      unfold lkF
      by_cases e : j = 10
      · rw [e, uI_eq, if_pos rfl]
      · rw [uI_nj e, if_neg e, s1 j hj]
    exact rdA_kin w (by omega) (fun j hj _ => ee j hj) (Or.inr (ee 6 (by decide)))
  rw [e]
  exact hQ I2 (fun a h1 h2 h3 => by rw [l2 a h1, uI_ne h3]; exact l1 a h1 h2 h3)
end LK
