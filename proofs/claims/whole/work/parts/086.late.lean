/-! open matches, the free, the late -/
theorem fstI_y {p : Nat → Bool} {n k : Nat} (hk : k < n) (h : p k = true) (hn : ∀ j, j < k → p j = false) : fstI p n = nI k := by
  have h1 : fa_first p n < n := by
    by_cases c : fa_first p n < n
    · exact c
    · have := fa_first_no p n k (by omega)
      rw [h] at this; cases this
  have e : fa_first p n = k := by
    have g1 := fa_first_yes p n h1
    by_cases c1 : fa_first p n < k
    · rw [hn _ c1] at g1; cases g1
    · by_cases c2 : k < fa_first p n
      · have := fa_first_no p n k c2
        rw [h] at this; cases this
      · omega
  unfold fstI
  rw [if_pos h1, e]
theorem fstI_n {p : Nat → Bool} {n : Nat} (hn : ∀ j, j < n → p j = false) : fstI p n = (-1) := by
  unfold fstI
  rw [if_neg]
  intro h1
  have := fa_first_yes p n h1
  rw [hn _ h1] at this; cases this
theorem fstI_c (p : Nat → Bool) (n : Nat) : (fstI p n = (-1) ∧ ∀ j, j < n → p j = false) ∨ ∃ k, k < n ∧ p k = true ∧ (∀ j, j < k → p j = false) ∧ fstI p n = nI k := by
  by_cases c : fa_first p n < n
  · exact Or.inr ⟨_, c, fa_first_yes p n c, fun j hj => fa_first_no p n j hj, if_pos c⟩
  · exact Or.inl ⟨if_neg c, fun j hj => fa_first_no p n j (by omega)⟩
def frA (V : mI) (p : Nat) : Prop := V 100 p = 0 ∧ V 101 p = (-1) ∧ opA V p = (-1)
theorem opB_iff {V : mI} {m : Nat} : opB V m = true ↔ V 109 m = 0 ∨ V 109 m = 1 := by simp [opB]
theorem hasB_iff {V : mI} {p m : Nat} : hasB V p m = true ↔ (V 109 m = 0 ∨ V 109 m = 1) ∧ (V 107 m = nI p ∨ V 108 m = nI p) := by simp [hasB, opB]
theorem opA_c (V : mI) (p : Nat) : (opA V p = (-1) ∧ ∀ m, m < cM V → hasB V p m = false) ∨ ∃ m, m < cM V ∧ hasB V p m = true ∧ (∀ j, j < m → hasB V p j = false) ∧ opA V p = nI m := fstI_c _ _
section LT
variable {E : Envt} {d : Nat} {Q : Pst} {h : mS} {I V : mI} {L : mL}
theorem m_openOf (hs : SL h) (w : Wf V) (hV : MV I V) {p : Nat} (hQ : Q (some (.int (opA V p))) h I L) : (CT E mX12_openOf (d + 1) 0 0 [.ref (eB E + 83), .int (nI p)] h I L Q) := by
  have n30 := w.M.n30
  refine w_X12_openOf hs _ ?_
  have e106 : I 106 0 = nI (cM V) := by rw [hV 106 (by decide) (by decide)]; exact w.M.n
  have K : ∀ k, k ≤ cM V → (∀ m, m < k → hasB V p m = false) → (J E mX12_openOf (d + 1) Q 0 0 2 [some (.ref (eB E + 83)), some (.int (nI p)), some (.int (nI k))] [] h I L) := by
    refine dn (cM V) ?_ ?_
    · intro hno
      refine w_X12_openOf_2 hs _ _ (br_t (by rw [e106]; exact nI_le (Nat.le_refl _) (by omega)) ?_)
      rw [opA, fstI_n hno] at hQ
      exact hQ
    · intro k hk ih hno
      refine w_X12_openOf_2 hs _ _ (br_f (by rw [e106]; exact nI_ge hk (by omega)) ⟨vp_in_nI (by omega) (by decide), ?_⟩)
      rw [nI_clamp (by omega), hV 107 (by decide) (by decide), hV 108 (by decide) (by decide), hV 109 (by decide) (by decide), nI_1]
      have no : ¬ ((V 109 k = 0 ∨ V 109 k = 1) ∧ (V 107 k = nI p ∨ V 108 k = nI p)) → hasB V p k = false := fun c => by
        have := mt hasB_iff.mp c
        simpa using this
      have yes : (V 109 k = 0 ∨ V 109 k = 1) → (V 107 k = nI p ∨ V 108 k = nI p) → Q (some (.int (nI k))) h I L := fun c1 c2 => by
        rw [opA, fstI_y hk (hasB_iff.mpr ⟨c1, c2⟩) hno] at hQ
        exact hQ
      refine br_c (fun c => ⟨vp_in_nI (by omega) (by decide), br_c (fun c1 => yes c (Or.inl c1)) (fun c1 => br_c (fun c2 => yes c (Or.inr c2)) (fun c2 => ih (lt_s hno (no ?_))))⟩) (fun c => ih (lt_s hno (no fun e => c e.1)))
      rintro ⟨-, e | e⟩
      · exact c1 e
      · exact c2 e
  exact K 0 (by omega) (fun m hm => absurd hm (by omega))
theorem m_isFree (hs : SL h) (w : Wf V) (hV : MV I V) {p : Nat} (hp : p < 20) (hQ : Q (some (.int (cif (frA V p) 1 0))) h I L) : (CT E mX12_isFree (d + 2) 0 0 [.ref (eB E + 83), .int (nI p)] h I L Q) := by
  refine w_X12_isFree hs _ ?_
  rw [nI_clamp (by omega), hV 100 (by decide) (by decide), hV 101 (by decide) (by decide)]
  refine ⟨vp_in_nI (by omega) (by decide), br_c (fun c1 => br_c (fun c2 => ?_) (fun c2 => ?_)) (fun c1 => ?_)⟩
  · refine m_openOf hs w hV (qi_i ?_)
    by_cases c3 : opA V p = (-1)
    · rw [bI_t c3]; rw [cif_t ⟨c1, c2, c3⟩] at hQ; exact hQ
    · rw [bI_f c3]; rw [cif_f (fun e => c3 e.2.2)] at hQ; exact hQ
  · rw [cif_f (fun e => c2 e.2.1)] at hQ; exact hQ
  · rw [cif_f (fun e => c1 e.1)] at hQ; exact hQ
theorem c_free (b : Bk h I 1 V) (w : Wf V) {p : Nat} (hp : p < cP V) : (¬ I 14 p = 0 ∧ (I 12 p = (-1) ∧ I 13 p = (-1))) ↔ frA V p := by
  have n20 := w.P.n20
  unfold frA
  rw [bP_ali b p hp, bP_spo b p (by omega), bO_op b p hp]
  by_cases c : V 100 p = 0
  · rw [if_pos c]; simp [c]
  · rw [if_neg c]; simp [c]
/-- the open match that the component keeps is one -/
theorem c_open (b : Bk h I 1 V) (w : Wf V) {p : Nat} : ((¬ (opA V p < 0) ∧ ¬ (I 24 0 ≤ opA V p)) → vp_in (opA V p) 30) ∧ ((((¬ (opA V p < 0) ∧ ¬ (I 24 0 ≤ opA V p)) ∧ I 27 (opA V p).toNatClampNeg = 0) ∨ ((¬ (opA V p < 0) ∧ ¬ (I 24 0 ≤ opA V p)) ∧ I 27 (opA V p).toNatClampNeg = 1)) ↔ ¬ opA V p = (-1)) := by
  have n30 := w.M.n30
  rcases opA_c V p with ⟨e, -⟩ | ⟨m, hm, hb, -, e⟩
  · rw [e]
    exact ⟨fun c => absurd (by decide) c.1, ⟨fun c => by rcases c with c | c <;> exact absurd (by decide) c.1.1, fun c => absurd rfl c⟩⟩
  · rw [e, nI_clamp (by omega), bM_sta b m (by omega), bM_n b, w.M.n]
    refine ⟨fun _ => vp_in_nI (by omega) (by decide), fun _ => m1_nI (by omega), fun _ => ?_⟩
    have hr : ¬ nI m < 0 ∧ ¬ nI (cM V) ≤ nI m := ⟨nI_pos (by omega), nI_ge hm (by omega)⟩
    rcases (hasB_iff.mp hb).1 with c | c
    · exact Or.inl ⟨hr, c⟩
    · exact Or.inr ⟨hr, c⟩
theorem opA_m (w : Wf V) {p : Nat} (h1 : ¬ opA V p = (-1)) : (opA V p).toNatClampNeg < cM V ∧ opA V p = nI (opA V p).toNatClampNeg := by
  have n30 := w.M.n30
  rcases opA_c V p with ⟨e, -⟩ | ⟨m, hm, hb, -, e⟩
  · exact absurd e h1
  · rw [e, nI_clamp (by omega)]; exact ⟨hm, rfl⟩
def brN (V : mI) (m : Nat) : Nat := (V 107 m).toNatClampNeg
def grN (V : mI) (m : Nat) : Nat := (V 108 m).toNatClampNeg
theorem br_ok (w : Wf V) {m : Nat} (hm : m < cM V) : brN V m < cP V ∧ V 107 m = nI (brN V m) ∧ V 97 (brN V m) = 0 := by
  have n20 := w.P.n20
  obtain ⟨p, h1, h2, h3⟩ := w.M.bri m hm
  unfold brN
  rw [h2, nI_clamp (by omega)]; exact ⟨h1, rfl, h3⟩
theorem gr_ok' (w : Wf V) {m : Nat} (hm : m < cM V) : grN V m < cP V ∧ V 108 m = nI (grN V m) ∧ V 97 (grN V m) = 1 := by
  have n20 := w.P.n20
  obtain ⟨p, h1, h2, h3⟩ := w.M.gro m hm
  unfold grN
  rw [h2, nI_clamp (by omega)]; exact ⟨h1, rfl, h3⟩
def swF (V : mI) (m : Nat) : Nat → Int32 := fun j => V 115 (11 * m + j)
noncomputable def ltS (V : mI) (m v s : Nat) : Int32 := (rdA V (7 + 2 * m + s) (f6 (swF V m) (kiA V v (V 88 0) (brN V m) (grN V m)))).1
def ltA (V : mI) (m : Nat) : Prop := V 109 m = 2 ∧ (¬ ltS V m (vN V (brN V m)) 0 = (-1) ∨ ¬ ltS V m (vN V (grN V m)) 1 = (-1))
theorem c_isLate (q : CQ h I V) {m : Nat} (hm : m < cM V) (hQ : ∀ I', JFr I I' → Kc I' V → Q (some (.int (cif (ltA V m) 1 0))) h I' L) : (CT E mX2_isLate (d + 5) 0 0 [.ref (eB E + 63), .int (nI m)] h I L Q) := by
  have n20 := q.w.P.n20
  have n30 := q.w.M.n30
  obtain ⟨b1, b2, b3⟩ := br_ok q.w hm
  obtain ⟨g1, g2, g3⟩ := gr_ok' q.w hm
  obtain ⟨hb8, ehb⟩ := hN_ok q.w (p := brN V m) (by omega)
  obtain ⟨hg8, ehg⟩ := hN_ok q.w (p := grN V m) (by omega)
  obtain ⟨vb5, evb⟩ := vN_ok q.w (p := brN V m) (by omega)
  obtain ⟨vg5, evg⟩ := vN_ok q.w (p := grN V m) (by omega)
  have hr : ¬ nI m < 0 ∧ ¬ I 24 0 ≤ nI m := ⟨nI_pos (by omega), by rw [bM_n q.b, q.w.M.n]; exact nI_ge hm (by omega)⟩
  refine w_X2_isLate q.s _ ⟨fun _ => vp_in_nI (by omega) (by decide), ?_⟩
  rw [nI_clamp (show m < 2 ^ 31 by omega), bM_sta q.b m (by omega), bM_bri q.b m (by omega), bM_gro q.b m (by omega), b2, g2]
  by_cases c2 : V 109 m = 2
  · refine br_t ⟨hr, c2⟩ ⟨vp_in_nI (by omega) (by decide), ?_⟩
    obtain ⟨t, u, et, ⟨nt, wt⟩, eu, ⟨nu, wu⟩⟩ := q.b.X.wt m hm c2
    have et : h.2.1 34 m = some t := et
    have eu : h.2.1 35 m = some u := eu
    rw [et, eu]
    refine ⟨(fun e => by cases e), fun t7 e7 => ?_⟩
    cases e7
    refine ⟨(fun e => by cases e), fun t11 e11 => ?_⟩
    cases e11
    have e11m : nI m * 11 = nI (11 * m) := by rw [N11, pk_mul, Nat.mul_comm]
    rw [e11m, nI_clamp (show 11 * m < 2 ^ 31 by omega)]
    generalize hJ : cpI (uI (uI I 63 2 (nI (brN V m))) 63 3 (nI (grN V m))) 33 64 (11 * m) 0 11 = I1
    have f1 : ∀ a, a ≠ 63 → a ≠ 64 → I1 a = I a := fun a h1 h2 => by rw [← hJ, cpI_ne h2, uI_ne h1, uI_ne h1]
    have e632 : I1 63 2 = nI (brN V m) := by rw [← hJ, cpI_ne (by decide), uI_nj (by decide), uI_eq]
    have e633 : I1 63 3 = nI (grN V m) := by rw [← hJ, cpI_ne (by decide), uI_eq]
    have e64 : ∀ j, j < 11 → j ≠ 6 → I1 64 j = swF V m j := fun j hj h6 => by
      rw [← hJ]
      show (if 64 = 64 then va_cpy _ _ (11 * m) 0 11 j else _) = _
      rw [if_pos rfl, pk_cpy_in (by omega) (by omega), uI_ne (by decide), uI_ne (by decide), Nat.sub_zero]
      exact bM_fac q.b m j hm c2 hj h6
    have q1 : CQ h I1 V := q.fk (fun a ha => f1 a (by omega) (by omega))
    rw [e632, nI_clamp (show brN V m < 2 ^ 31 by omega), bP_hou q1.b _ (show brN V m < 20 by omega), ehb, nI_clamp (show hN V (brN V m) < 2 ^ 31 by omega), bH_vil q1.b _ hb8, evb]
    refine ⟨nI_pos (by omega), by omega, vp_in_nI (by omega) (by decide), vp_in_nI (by omega) (by decide), ?_⟩
    have flz : ∀ j, j < 5 → bz (swF V m j) := fun j hj => q.w.W.fla m j (by omega) hj
    have hlt := wt.lo
    have hlu := wu.lo
    refine c_readBy q1 (f := swF V m) (x := 7 + 2 * m) (by omega) (by omega) (by omega) (wt.cg (fun a h1 h2 => f1 a (by omega) (by omega))) vb5 b1 g1 e632 e633 e64 flz (fun I2 j2 k2 m2 n2 r5 r6 r7 => qv_i ?_)
    have r5 : I2 63 5 = ltS V m (vN V (brN V m)) 0 := r5
    have q2 : CQ h I2 V := q1.fr j2.fr k2
    rw [r5]
    by_cases c5 : ltS V m (vN V (brN V m)) 0 = (-1)
    · refine br_t c5 ?_
      rw [m2 3 (by decide), e633, nI_clamp (show grN V m < 2 ^ 31 by omega), bP_hou q2.b _ (show grN V m < 20 by omega), ehg, nI_clamp (show hN V (grN V m) < 2 ^ 31 by omega), bH_vil q2.b _ hg8, evg]
      refine ⟨vp_in_nI (by omega) (by decide), vp_in_nI (by omega) (by decide), ?_⟩
      refine c_readBy q2 (f := swF V m) (x := 8 + 2 * m) (by omega) (by omega) (by omega) (wu.cg (fun a h1 h2 => (j2 a (by omega)).trans (f1 a (by omega) (by omega)))) vg5 b1 g1 ((m2 2 (by decide)).trans e632) ((m2 3 (by decide)).trans e633) (fun j hj h6 => (n2 j h6).trans (e64 j hj h6)) flz (fun I3 j3 k3 m3 n3 s5 s6 s7 => qv_i ?_)
      have fin := hQ I3 (fun a ha => (j3 a ha).trans ((j2 a ha).trans (f1 a (by omega) (by omega)))) k3
      have s5 : I3 63 5 = ltS V m (vN V (grN V m)) 1 := by rw [s5]; unfold ltS; rw [show 7 + 2 * m + 1 = 8 + 2 * m by omega]
      rw [s5]
      by_cases c6 : ltS V m (vN V (grN V m)) 1 = (-1)
      · rw [bI_f (fun e => e c6)]
        rw [cif_f (fun e => by rcases e.2 with x | x; exact x c5; exact x c6)] at fin
        exact fin
      · rw [bI_t c6]
        rw [cif_t ⟨c2, Or.inr c6⟩] at fin
        exact fin
    · refine br_f c5 ?_
      have fin := hQ I2 (fun a ha => (j2 a ha).trans (f1 a (by omega) (by omega))) k2
      rw [bI_t c5]
      rw [cif_t ⟨c2, Or.inl c5⟩] at fin
      exact fin
  · refine br_f (fun e => c2 e.2) ?_
    have fin := hQ I (fun _ _ => rfl) q.k
    rw [cif_f (fun e => c2 e.1)] at fin
    exact fin
theorem m_isLate (hs : SL h) (w : Wf V) (hV : MV I V) {m : Nat} (hm : m < cM V) (hQ : ∀ I', LFr I I' → Q (some (.int (cif (ltA V m) 1 0))) h I' L) : (CT E mX12_isLate (d + 3) 0 0 [.ref (eB E + 83), .int (nI m)] h I L Q) := by
  have n20 := w.P.n20
  have n30 := w.M.n30
  obtain ⟨b1, b2, b3⟩ := br_ok w hm
  obtain ⟨g1, g2, g3⟩ := gr_ok' w hm
  refine w_X12_isLate hs _ ⟨vp_in_nI (by omega) (by decide), ?_⟩
  rw [nI_clamp (by omega), hV 109 (by decide) (by decide)]
  by_cases c2 : V 109 m = 2
  · refine br_t c2 ?_
    have side : ∀ (s : Nat) (bar : Int32) (I1 : mI) (who : Nat), s < 2 → who < cP V → (if nI s = 0 then nI (brN V m) else nI (grN V m) : Int32) = nI who → MV I1 V → (∀ I2, LFr I1 I2 → (J E mX12_isLate (d + 3) Q 0 0 16 [some (.ref (eB E + 83)), some (.int (nI m)), some (.int (bI (¬ bar = 0 ∨ ¬ ltS V m (vN V who) s = (-1)))), some (.int (nI (s + 1))), none, none, none] [] h I2 L)) → (J E mX12_isLate (d + 3) Q 0 0 16 [some (.ref (eB E + 83)), some (.int (nI m)), some (.int bar), some (.int (nI s)), none, none, none] [] h I1 L) := by
      intro s bar I1 who hs2 hwho ewho hV1 hK
      obtain ⟨hw8, ehw⟩ := hN_ok w (p := who) (by omega)
      obtain ⟨vw5, evw⟩ := vN_ok w (p := who) (by omega)
      refine w_X12_isLate_16 hs _ _ _ (br_f (nI_ge hs2 (by decide)) ⟨fun _ => vp_in_nI (by omega) (by decide), fun _ => vp_in_nI (by omega) (by decide), ?_⟩)
      rw [nI_clamp (show m < 2 ^ 31 by omega), hV1 107 (by decide) (by decide), hV1 108 (by decide) (by decide), hV1 96 (by decide) (by decide), hV1 92 (by decide) (by decide), hV1 88 (by decide) (by decide), b2, g2]
      rw [ewho]
      rintro y7 rfl
      rw [nI_clamp (show who < 2 ^ 31 by omega), ehw, nI_clamp (show hN V who < 2 ^ 31 by omega), evw]
      refine ⟨vp_in_nI (by omega) (by decide), vp_in_nI (by omega) (by decide), vp_in_nI (by omega) (by decide), ?_⟩
      refine m_kinOf hs w hV1 b1 g1 vw5 (fun I2 k1 k2 k3 k4 k5 => qi_i ?_)
      have hV2 : MV I2 V := hV1.fr k1.fr
      have K81 : ∀ k, k ≤ 11 → ∀ f, (∀ j, j < k → f j = swF V m j) → (J E mX12_isLate (d + 3) Q 0 0 81 [some (.ref (eB E + 83)), some (.int (nI m)), some (.int bar), some (.int (nI s)), some (.int (nI who)), some (.int (kiA V (vN V who) (V 88 0) (brN V m) (grN V m))), some (.int (nI k))] [] h (sA I2 133 f) L) := by
        refine dn 11 ?_ ?_
        · intro f hf
          refine w_X12_isLate_81 hs _ _ _ _ _ _ (br_t (by decide) ?_)
          have ex : 7 + 2 * nI m + nI s = nI (7 + 2 * m + s) := by rw [N7, N2, pk_mul, nI_add, nI_add]
          rw [ex, uI_sA]
          refine m_readBy hs w (fun a h1 h2 => by rw [sA_ne (by omega)]; exact hV2 a h1 h2) (by omega) (fun I3 l3 p3 r1 r2 r3 r4 => qv_i ?_)
          rw [sA_at] at r1
          have e1 : I3 83 62 = ltS V m (vN V who) s := by
            rw [r1]
            unfold ltS
            have ee : ∀ j, j < 11 → upd f 6 (kiA V (vN V who) (V 88 0) (brN V m) (grN V m)) j = f6 (swF V m) (kiA V (vN V who) (V 88 0) (brN V m) (grN V m)) j := by
              intro j hj
              unfold f6
              by_cases e : j = 6
              · rw [e, upd_same', if_pos rfl]
              · rw [upd_ne' e, if_neg e]; exact hf j hj
            rw [rdA_kin w (by omega) (fun j hj _ => ee j hj) (Or.inr (ee 6 (by decide)))]
          rw [e1, nI_1]
          exact hK I3 (fun a h1 h2 h3 => by rw [l3 a h1, sA_ne h3]; exact k1.1 a h1 h2)
        · intro k hk ih f hf
          refine w_X12_isLate_81 hs _ _ _ _ _ _ (br_f (nI_ge hk (by decide)) ?_)
          rw [N11, pk_mul, nI_add, nI_clamp (show 11 * m + k < 2 ^ 31 by omega), nI_clamp (show k < 2 ^ 31 by omega), sA_ne (by decide), hV2 115 (by decide) (by decide), uI_sA, nI_1]
          refine ⟨vp_in_nI (by omega) (by decide), vp_in_nI (by omega) (by decide), ih _ (fun j hj => ?_)⟩
          by_cases e : j = k
          · rw [e, upd_same']; rfl
          · rw [upd_ne' e]; exact hf j (by omega)
      have := K81 0 (by omega) (I2 133) (fun j hj => absurd hj (by omega))
      rw [sA_id] at this
      exact this
    refine side 0 0 I (brN V m) (by omega) b1 rfl hV (fun I2 l2 => ?_)
    refine side 1 _ I2 (grN V m) (by omega) g1 (if_neg (by decide)) (hV.fr l2.fr) (fun I3 l3 => ?_)
    have fin := hQ I3 (l2.tr l3)
    have ebar : bI (¬ bI (¬ (0 : Int32) = 0 ∨ ¬ ltS V m (vN V (brN V m)) 0 = (-1)) = 0 ∨ ¬ ltS V m (vN V (grN V m)) 1 = (-1)) = cif (ltA V m) 1 0 := by
      by_cases c5 : ltS V m (vN V (brN V m)) 0 = (-1)
      · have z : bI (¬ (0 : Int32) = 0 ∨ ¬ ltS V m (vN V (brN V m)) 0 = (-1)) = 0 := bI_f (by rintro (e | e); exact e rfl; exact e c5)
        by_cases c6 : ltS V m (vN V (grN V m)) 1 = (-1)
        · rw [cif_f (fun e => by rcases e.2 with x | x; exact x c5; exact x c6)]
          exact bI_f (by rintro (e | e); exact e z; exact e c6)
        · rw [cif_t ⟨c2, Or.inr c6⟩]
          exact bI_t (Or.inr c6)
      · have z : bI (¬ (0 : Int32) = 0 ∨ ¬ ltS V m (vN V (brN V m)) 0 = (-1)) = 1 := bI_t (Or.inr c5)
        rw [cif_t ⟨c2, Or.inl c5⟩]
        exact bI_t (Or.inl (by rw [z]; decide))
    refine w_X12_isLate_16 hs _ _ _ (br_t (by decide) ⟨?_, ?_⟩)
    · rw [ebar]
      by_cases c : ltA V m
      · rw [cif_t c]; exact Or.inr rfl
      · rw [cif_f c]; exact Or.inl rfl
    · rw [ebar]; exact fin
  · refine br_f c2 ?_
    have fin := hQ I LFr.rf
    rw [cif_f (fun e => c2 e.1)] at fin
    exact fin
end LT
