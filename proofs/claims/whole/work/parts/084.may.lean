/-! may they wed, how much do they like -/
def vN (V : mI) (p : Nat) : Nat := (V 92 (hN V p)).toNatClampNeg
theorem vN_ok {V : mI} (w : Wf V) {p : Nat} (hp : p < 20) : vN V p < 5 ∧ V 92 (hN V p) = nI (vN V p) := (w.H.vil _ (hN_ok w hp).1).nat (by decide)
noncomputable def rdC (V : mI) (b g v : Nat) : Int32 × Int32 × Int32 × Int32 := rdA V v (faA V b g (kiA V v (V 88 0) b g))
def mayA (V : mI) (b g : Nat) : Prop := ¬ V 96 b = V 96 g ∧ (rdC V b g (vN V b)).1 = (-1) ∧ (rdC V b g (vN V g)).1 = (-1)
noncomputable def mgA (V : mI) (b g : Nat) : Int32 := if (rdC V b g (vN V g)).2.1 ≤ (rdC V b g (vN V b)).2.1 then (rdC V b g (vN V b)).2.1 else (rdC V b g (vN V g)).2.1
noncomputable def mbA (V : mI) (b g : Nat) : Int32 := (rdC V b g (vN V b)).2.2.1
theorem fa_6 {V : mI} {b g : Nat} {k : Int32} : f6 (faA V b g 0) k = faA V b g k := by
  funext j
  unfold f6
  by_cases e : j = 6
  · subst e; rfl
  · rw [if_neg e]
    match j, e with
    | 0, _ | 1, _ | 2, _ | 3, _ | 4, _ | 5, _ | 7, _ | 8, _ | 9, _ | 10, _ => rfl
    | 6, e => exact absurd rfl e
    | n + 11, _ => rfl
theorem fa_k {V : mI} {b g j : Nat} {k : Int32} (h : j ≠ 6) : faA V b g k j = faA V b g 0 j := by
  rw [← fa_6 (k := k)]
  exact if_neg h
theorem fa_z {V : mI} (w : Wf V) {b g : Nat} {k : Int32} (hb : b < 20) : ∀ j, j < 5 → bz (faA V b g k j) := by
  intro j hj
  have bb : ∀ (p : Prop) [Decidable p], bz (bI p) := fun p _ => by
    by_cases c : p
    · rw [bI_t c]; exact Or.inr rfl
    · rw [bI_f c]; exact Or.inl rfl
  have hj' : j = 0 ∨ j = 1 ∨ j = 2 ∨ j = 3 ∨ j = 4 := by omega
  rcases hj' with rfl | rfl | rfl | rfl | rfl
  · exact bb _
  · exact bb _
  · exact bb _
  · exact w.P.wid b hb
  · show bz (cif (elA V b) 1 0)
    by_cases c : elA V b
    · rw [cif_t c]; exact Or.inr rfl
    · rw [cif_f c]; exact Or.inl rfl
section MW
variable {E : Envt} {d : Nat} {Q : Pst} {h : mS} {I V : mI} {L : mL}
theorem c_customOf (q : CQ h I V) {k : Nat} (hk : k < 8) (hQ : ∀ t nl, TRn h I V t (V 92 k).toNatClampNeg nl → Q (some (.ref (eB E + t))) h I L) : (CT E mX0_customOf d 0 0 [.ref (eB E + 1), .int (nI k)] h I L Q) := by
  obtain ⟨v5, ev⟩ := (q.w.H.vil k hk).nat (by decide)
  refine w_X0_customOf q.s _ ?_
  rw [nI_clamp (by omega), bH_vil q.b k hk, ev]
  obtain ⟨t, h1, nl, h2⟩ := q.b.X.tx (V 92 k).toNatClampNeg (by omega)
  refine ⟨vp_in_nI hk (by decide), vp_in_nI (by omega) (by decide), t, ?_, hQ t nl h2⟩
  rw [nI_clamp (by omega)]; exact h1
theorem c_letsWed (q : CQ h I V) {b g : Nat} (hb : b < cP V) (hg : g < cP V) (hQ : ∀ I', JFr I I' → Kc I' V → I' 63 8 = mgA V b g → I' 63 9 = mbA V b g → (∀ j, j < 11 → j ≠ 6 → I' 64 j = faA V b g 0 j) → Q (some (.int (cif (mayA V b g) 1 0))) h I' L) :
    (CT E mX2_letsWed (d + 5) 0 0 [.ref (eB E + 63), .int (nI b), .int (nI g)] h I L Q) := by
  have n20 := q.w.P.n20
  obtain ⟨hb8, ehb⟩ := hN_ok q.w (p := b) (by omega)
  obtain ⟨hg8, ehg⟩ := hN_ok q.w (p := g) (by omega)
  obtain ⟨vb5, evb⟩ := vN_ok q.w (p := b) (by omega)
  obtain ⟨vg5, evg⟩ := vN_ok q.w (p := g) (by omega)
  refine w_X2_letsWed q.s _ _ ?_
  refine c_face q hb hg (fun I1 f1 g2 g3 g6 gf g63 => qv_i ?_)
  have q1 : CQ h I1 V := q.fk (fun a ha => f1 a (by omega) (by omega))
  rw [g2, g3, nI_clamp (show b < 2 ^ 31 by omega), nI_clamp (show g < 2 ^ 31 by omega), bP_hou q1.b b (by omega), bP_hou q1.b g (by omega), ehb, ehg]
  refine ⟨vp_in_nI (by omega) (by decide), ?_⟩
  rintro y3 rfl
  refine ⟨vp_in_nI (by omega) (by decide), ?_⟩
  rintro y5 rfl
  refine c_customOf q1 hb8 (fun t nl wt => qt_i ⟨vp_in_nI hb8 (by decide), ?_⟩)
  rw [nI_clamp (show hN V b < 2 ^ 31 by omega), nI_clamp (show hN V g < 2 ^ 31 by omega), bH_vil q1.b _ hb8, evb]
  have wt : TRn h I1 V t (vN V b) nl := wt
  refine c_readBy q1 (f := faA V b g 0) (by omega) (by omega) (by omega) wt vb5 hb hg g2 g3 gf (fa_z q.w (by omega)) (fun I2 j2 k2 m2 n2 r5 r6 r7 => qv_i ?_)
  rw [fa_6] at r5 r6 r7
  have q2 : CQ h (uI (uI I2 63 8 (I2 63 6)) 63 9 (I2 63 7)) V := q1.fr (fun a ha => by rw [uI_ne (by omega), uI_ne (by omega)]; exact j2 a (by omega)) (k2.cg (by rw [uI_ne (by decide), uI_ne (by decide)]) (by rw [uI_ne (by decide), uI_ne (by decide)]))
  refine c_customOf q2 hg8 (fun t' nl' wt' => qt_i ⟨vp_in_nI hg8 (by decide), ?_⟩)
  rw [bH_vil q2.b _ hg8, evg]
  have wt' : TRn h (uI (uI I2 63 8 (I2 63 6)) 63 9 (I2 63 7)) V t' (vN V g) nl' := wt'
  refine c_readBy q2 (f := faA V b g 0) (by omega) (by omega) (by omega) wt' vg5 hb hg ?_ ?_ ?_ (fa_z q.w (by omega)) (fun I3 j3 k3 m3 n3 s5 s6 s7 => qv_i ?_)
  · rw [uI_nj (by decide), uI_nj (by decide), m2 2 (by decide)]; exact g2
  · rw [uI_nj (by decide), uI_nj (by decide), m2 3 (by decide)]; exact g3
  · intro j hj h6
    rw [uI_ne (by decide), uI_ne (by decide), n2 j h6]; exact gf j hj h6
  rw [fa_6] at s5 s6 s7
  have e8 : I3 63 8 = (rdC V b g (vN V b)).2.1 := by
    rw [m3 8 (by decide), uI_nj (by decide), uI_eq, r6]; rfl
  have e9 : I3 63 9 = (rdC V b g (vN V b)).2.2.1 := by
    rw [m3 9 (by decide), uI_eq, r7]; rfl
  have fin := hQ (uI I3 63 8 (if I3 63 8 < I3 63 6 then I3 63 6 else I3 63 8)) (fun a ha => by
      rw [uI_ne (by omega), j3 a ha, uI_ne (by omega), uI_ne (by omega), j2 a ha]; exact f1 a (by omega) (by omega))
    (k3.cg (uI_ne (by decide)) (uI_ne (by decide))) (by
      rw [uI_eq, e8, s6]
      unfold mgA rdC
      by_cases c : (rdA V (vN V g) (faA V b g (kiA V (vN V g) (V 88 0) b g))).2.1 ≤ (rdA V (vN V b) (faA V b g (kiA V (vN V b) (V 88 0) b g))).2.1
      · rw [if_pos c, if_neg]
        intro e; rw [fa_lt] at e; rw [fa_le] at c; omega
      · rw [if_neg c, if_pos (fa_of_nle c)]) (by rw [uI_nj (by decide), e9]; rfl) (fun j hj h6 => by
      rw [uI_ne (by decide), n3 j h6, uI_ne (by decide), uI_ne (by decide), n2 j h6]; exact gf j hj h6)
  have ev : bI (¬ nI (hN V b) = nI (hN V g) ∧ ¬ ¬ I2 63 5 = (-1) ∧ I3 63 5 = (-1)) = cif (mayA V b g) 1 0 := by
    have iff1 : (¬ nI (hN V b) = nI (hN V g) ∧ ¬ ¬ I2 63 5 = (-1) ∧ I3 63 5 = (-1)) ↔ mayA V b g := by
      unfold mayA rdC
      rw [← ehb, ← ehg, r5, s5, Classical.not_not]
    by_cases c : mayA V b g
    · rw [bI_t (iff1.mpr c), cif_t c]
    · rw [bI_f (fun e => c (iff1.mp e)), cif_f c]
  rw [ev]
  exact fin
theorem m_mayWed (hs : SL h) (w : Wf V) (hV : MV I V) {b g : Nat} (hb : b < cP V) (hg : g < cP V) (hQ : ∀ I', LFr I I' → (mayA V b g → I' 83 66 = mgA V b g ∧ I' 83 67 = mbA V b g) → Q (some (.int (cif (mayA V b g) 1 0))) h I' L) :
    (CT E mX12_mayWed (d + 4) 0 0 [.ref (eB E + 83), .int (nI b), .int (nI g)] h I L Q) := by
  have n20 := w.P.n20
  obtain ⟨hb8, ehb⟩ := hN_ok w (p := b) (by omega)
  obtain ⟨hg8, ehg⟩ := hN_ok w (p := g) (by omega)
  obtain ⟨vb5, evb⟩ := vN_ok w (p := b) (by omega)
  obtain ⟨vg5, evg⟩ := vN_ok w (p := g) (by omega)
  refine w_X12_mayWed hs _ _ ?_
  rw [nI_clamp (show b < 2 ^ 31 by omega), nI_clamp (show g < 2 ^ 31 by omega), hV 96 (by decide) (by decide), hV 92 (by decide) (by decide)]
  refine ⟨vp_in_nI (by omega) (by decide), vp_in_nI (by omega) (by decide), ?_⟩
  by_cases c0 : V 96 b = V 96 g
  · refine br_t c0 ?_
    have := hQ I LFr.rf (fun hm => absurd c0 hm.1)
    rw [cif_f (fun hm => hm.1 c0)] at this
    exact this
  · refine br_f c0 ?_
    rw [ehb, ehg, nI_clamp (show hN V b < 2 ^ 31 by omega), nI_clamp (show hN V g < 2 ^ 31 by omega), evb, evg]
    refine ⟨vp_in_nI (by omega) (by decide), ?_⟩
    rintro y5 rfl
    refine ⟨vp_in_nI (by omega) (by decide), ?_⟩
    rintro y7 rfl
    refine m_lookAt hs w hV hb hg vb5 (fun I1 l1 p1 s1 => qv_i ?_)
    have hV1 : MV I1 V := hV.fr l1.fr
    refine m_readBy hs w hV1 (by omega) (fun I2 l2 p2 r1 r2 r3 r4 => qv_i ?_)
    have hV2 : MV (uI (uI I2 83 66 (I2 83 63)) 83 67 (I2 83 64)) V := fun a h1 h2 => by
      rw [uI_ne (by omega), uI_ne (by omega), l2 a (by omega)]; exact hV1 a h1 h2
    have era : ∀ (v : Nat) (I1 : mI), v < 5 → (∀ j, j < 11 → I1 133 j = faA V b g (kiA V v (V 88 0) b g) j) → rdA V v (I1 133) = rdC V b g v := fun v I1 hv s1 => rdA_kin w (by omega) (fun j hj _ => s1 j hj) (Or.inr (s1 6 (by decide)))
    refine m_lookAt hs w hV2 hb hg vg5 (fun I3 l3 p3 s3 => qv_i ?_)
    refine m_readBy hs w (hV2.fr l3.fr) (by omega) (fun I4 l4 p4 t1 t2 t3 t4 => qv_i ?_)
    rw [era _ I1 vb5 s1] at r1 r2 r3 r4
    rw [era _ I3 vg5 s3] at t1 t2 t3 t4
    have e66 : I4 83 66 = (rdC V b g (vN V b)).2.1 := by
      rw [p4 66 (by decide), p3 66 (by decide), uI_nj (by decide), uI_eq, r2]
    have e67 : I4 83 67 = (rdC V b g (vN V b)).2.2.1 := by
      rw [p4 67 (by decide), p3 67 (by decide), uI_eq, r3]
    have fin := hQ (uI I4 83 66 (if I4 83 63 ≤ I4 83 66 then I4 83 66 else I4 83 63)) (fun a h1 h2 h3 => by
        rw [uI_ne h1, l4 a h1, l3 a h1 h2 h3, uI_ne h1, uI_ne h1, l2 a h1]; exact l1 a h1 h2 h3) (fun hm => ⟨by rw [uI_eq, e66, t2]; rfl, by rw [uI_nj (by decide), e67]; rfl⟩)
    have ev : bI (I2 83 62 = (-1) ∧ I4 83 62 = (-1)) = cif (mayA V b g) 1 0 := by
      have iff1 : (I2 83 62 = (-1) ∧ I4 83 62 = (-1)) ↔ mayA V b g := by
        unfold mayA
        rw [r1, t1]
        exact ⟨fun e => ⟨c0, e⟩, fun e => e.2⟩
      by_cases c : mayA V b g
      · rw [bI_t (iff1.mpr c), cif_t c]
      · rw [bI_f (fun e => c (iff1.mp e)), cif_f c]
    rw [ev]
    exact fin
end MW
