/-! queries: read, may, liking -/
section Q2
variable {E : Envt} {d : Nat} {Q : Pst} {h : mS} {I V : mI} {L : mL}
def bgQ (V : mI) (b g : Int32) : Prop := (inN b (cP V) ∧ V 97 b.toNatClampNeg = 0) ∧ (inN g (cP V) ∧ V 97 g.toNatClampNeg = 1)
noncomputable def redF (r : Int32 × Int32 × Int32 × Int32) (x : Int32) : Int32 := if x = 0 then bI (¬ r.1 = (-1)) else if x = 1 then r.1 else if x = 2 then r.2.1 else r.2.2.1
noncomputable def redQ (V : mI) (b g v x : Int32) : Int32 := cif (bgQ V b g ∧ inN v 5 ∧ inN x 4) (redF (rdC V b.toNatClampNeg g.toNatClampNeg v.toNatClampNeg) x) (-100)
noncomputable def mayQ (V : mI) (b g : Int32) : Int32 := cif (bgQ V b g) (cif (mayA V b.toNatClampNeg g.toNatClampNeg) 1 0) 0
noncomputable def likQ (V : mI) (p o : Int32) : Int32 := cif (inN p (cP V) ∧ inN o (cP V) ∧ ¬ V 97 p.toNatClampNeg = V 97 o.toNatClampNeg) (lkA V p.toNatClampNeg o.toNatClampNeg) (-1000000)
theorem bgC (q : CQ h I V) {b g : Int32} : (((¬ b < 0 ∧ ¬ I 7 0 ≤ b) ∧ I 9 b.toNatClampNeg = 0) ∧ (¬ g < 0 ∧ ¬ I 7 0 ≤ g) ∧ I 9 g.toNatClampNeg = 1) ↔ bgQ V b g := by
  have n20 := q.w.P.n20
  unfold bgQ
  rw [cP_r q, cP_r q]
  constructor
  · rintro ⟨⟨⟨b, hb, rfl⟩, e1⟩, ⟨g, hg, rfl⟩, e2⟩
    rw [nI_clamp (by omega), bP_kin q.b _ (by omega)] at e1 e2
    refine ⟨⟨⟨b, hb, rfl⟩, ?_⟩, ⟨g, hg, rfl⟩, ?_⟩
    · rw [nI_clamp (by omega)]; exact e1
    · rw [nI_clamp (by omega)]; exact e2
  · rintro ⟨⟨⟨b, hb, rfl⟩, e1⟩, ⟨g, hg, rfl⟩, e2⟩
    rw [nI_clamp (by omega)] at e1 e2
    refine ⟨⟨⟨b, hb, rfl⟩, ?_⟩, ⟨g, hg, rfl⟩, ?_⟩
    · rw [nI_clamp (by omega), bP_kin q.b _ (by omega)]; exact e1
    · rw [nI_clamp (by omega), bP_kin q.b _ (by omega)]; exact e2
theorem bgM (w : Wf V) (hV : MV I V) {b g : Int32} : ((¬ b < 0 ∧ ¬ uI I 83 0 0 95 0 - 1 < b) ∧ (¬ g < 0 ∧ ¬ uI I 83 0 0 95 0 - 1 < g) ∧ uI I 83 0 0 97 b.toNatClampNeg = 0 ∧ uI I 83 0 0 97 g.toNatClampNeg = 1) ↔ bgQ V b g := by
  unfold bgQ
  rw [mP_r w hV, mP_r w hV, uI_ne (show (97 : Nat) ≠ 83 by decide), hV 97 (by decide) (by decide)]
  exact ⟨fun ⟨a, b, c, d⟩ => ⟨⟨a, c⟩, b, d⟩, fun ⟨⟨a, c⟩, b, d⟩ => ⟨a, b, c, d⟩⟩
theorem vpP {n : Nat} {x : Int32} (w : Wf V) (hx : inN x (cP V)) (h1 : 20 ≤ n) (h2 : n < 2 ^ 31) : vp_in x n := by
  have n20 := w.P.n20
  obtain ⟨j, hj, rfl⟩ := hx
  exact vp_in_nI (by omega) h2
theorem redF_sw {r : Int32 × Int32 × Int32 × Int32} {x : Int32} {P : Int32 → Prop} (hP : P (redF r x)) : (x = 0 → P (bI (¬ r.1 = (-1)))) ∧ (x = 1 → P r.1) ∧ (x = 2 → P r.2.1) ∧ (¬ x = 0 → ¬ x = 1 → ¬ x = 2 → P r.2.2.1) := by
  unfold redF at hP
  refine ⟨fun e => ?_, fun e => ?_, fun e => ?_, fun n0 n1 n2 => ?_⟩
  · rw [if_pos e] at hP; exact hP
  · rw [if_neg (by rw [e]; decide), if_pos e] at hP; exact hP
  · rw [if_neg (by rw [e]; decide), if_neg (by rw [e]; decide), if_pos e] at hP; exact hP
  · rw [if_neg n0, if_neg n1, if_neg n2] at hP; exact hP
theorem c_read (q : CQ h I V) {b g v x : Int32} (hQ : ∀ I', FrC I I' → Kc I' V → Q (some (.int (redQ V b g v x))) h I' L) : (CT E mX11_read (d + 5) 0 0 [.ref (eB E + 0), .int b, .int g, .int v, .int x] h I L Q) := by
  have n20 := q.w.P.n20
  unfold redQ at hQ
  have no : (¬ (bgQ V b g ∧ inN v 5 ∧ inN x 4)) → Q (some (.int (-100))) h I L := fun hn => by
    have fin := hQ I FrC.rf q.k
    rw [cif_f hn] at fin
    exact fin
  refine w_X11_read q.s _ _ _ _ ⟨fun c => vpP q.w ((cP_r q).mp c) (by decide) (by decide), fun _ c => vpP q.w ((cP_r q).mp c) (by decide) (by decide), br_c (fun c1 => br_c (fun c2 => br_c (fun c3 => ?_) (fun c3 => no fun e => c3 (r_4.mpr e.2.2))) (fun c2 => no fun e => c2 (r_5.mpr e.2.1))) (fun c1 => no fun e => c1 ((bgC q).mpr e.1))⟩
  have c1 := (bgC q).mp c1
  have c3 := r_4.mp c3
  have c2 := r_5.mp c2
  rw [cif_t ⟨c1, c2, c3⟩] at hQ
  obtain ⟨⟨⟨b, hb, rfl⟩, -⟩, ⟨g, hg, rfl⟩, -⟩ := c1
  obtain ⟨v, hv, rfl⟩ := c2
  rw [nI_clamp (by omega), nI_clamp (by omega), nI_clamp (by omega)] at hQ
  refine c_face q hb hg (fun I1 f1 g2 g3 g6 gf g63 => qv_i ?_)
  have q1 : CQ h I1 V := q.fk (fun a ha => f1 a (by omega) (by omega))
  obtain ⟨t, h1, nl, wt⟩ := q1.b.X.tx v (by omega)
  refine ⟨vp_in_nI (by omega) (by decide), t, by rw [nI_clamp (by omega)]; exact h1, ?_⟩
  refine c_readBy q1 (f := faA V b g 0) (by omega) (by omega) (by omega) wt hv hb hg g2 g3 gf (fa_z q.w (by omega)) (fun I2 j2 k2 m2 n2 r5 r6 r7 => qv_i ?_)
  rw [fa_6] at r5 r6 r7
  have fin := hQ I2 (fun a ha => by rw [j2 a (by omega)]; exact f1 a (by omega) (by omega)) k2
  obtain ⟨s0, s1, s2, s3⟩ := redF_sw (P := fun z => Q (some (.int z)) h I2 L) fin
  have e5 : I2 63 5 = (rdC V b g v).1 := r5
  have e6 : I2 63 6 = (rdC V b g v).2.1 := r6
  have e7 : I2 63 7 = (rdC V b g v).2.2.1 := r7
  rw [e5, e6, e7]
  refine ⟨fun e => ?_, s1, s2, s3⟩
  rw [bI_nn]
  exact s0 e
theorem m_read (hs : SL h) (w : Wf V) (hV : MV I V) {b g v x : Int32} (hQ : ∀ I', FrM I I' → Q (some (.int (redQ V b g v x))) h I' L) : (CT E mX12_read (d + 4) 0 0 [.ref (eB E + 83), .int b, .int g, .int v, .int x] h I L Q) := by
  have n20 := w.P.n20
  unfold redQ at hQ
  have hV1 : MV (uI I 83 0 0) V := hV.fr FrM.u0
  have no : (¬ (bgQ V b g ∧ inN v 5 ∧ inN x 4)) → Q (some (.int (-100))) h (uI I 83 0 0) L := fun hn => by
    have fin := hQ _ (FrM.u0 (I := I))
    rw [cif_f hn] at fin
    exact fin
  refine w_X12_read hs _ _ _ _ ⟨fun c _ => vpP w ((mP_r w hV).mp c) (by decide) (by decide), fun _ c _ => vpP w ((mP_r w hV).mp c) (by decide) (by decide), br_c (fun c1 => br_c (fun c2 => br_c (fun c3 => ?_) (fun c3 => no fun e => c3 (r_4.mpr e.2.2))) (fun c2 => no fun e => c2 (r_5.mpr e.2.1))) (fun c1 => no fun e => c1 ((bgM w hV).mpr e.1))⟩
  have c1 := (bgM w hV).mp c1
  have c3 := r_4.mp c3
  have c2 := r_5.mp c2
  rw [cif_t ⟨c1, c2, c3⟩] at hQ
  obtain ⟨⟨⟨b, hb, rfl⟩, -⟩, ⟨g, hg, rfl⟩, -⟩ := c1
  obtain ⟨v, hv, rfl⟩ := c2
  rw [nI_clamp (by omega), nI_clamp (by omega), nI_clamp (by omega)] at hQ
  refine m_lookAt hs w hV1 hb hg hv (fun I1 l1 p1 s1 => qv_i ?_)
  refine m_readBy hs w (hV1.fr l1.fr) (by omega) (fun I2 l2 p2 r1 r2 r3 r4 => qv_i ?_)
  rintro y rfl
  have era : rdA V v (I1 133) = rdC V b g v := rdA_kin w (by omega) (fun j hj _ => s1 j hj) (Or.inr (s1 6 (by decide)))
  have fin := hQ I2 (FrM.tr FrM.u0 (FrM.tr l1.fr (fun a ha => l2 a (by omega))))
  rw [era] at r1 r2 r3
  rw [r1, r2, r3]
  exact fin
theorem c_may (q : CQ h I V) {b g : Int32} (hQ : ∀ I', FrC I I' → Kc I' V → Q (some (.int (mayQ V b g))) h I' L) : (CT E mX11_may (d + 6) 0 0 [.ref (eB E + 0), .int b, .int g] h I L Q) := by
  have n20 := q.w.P.n20
  unfold mayQ at hQ
  have no : (¬ bgQ V b g) → Q (some (.int 0)) h I L := fun hn => by
    have fin := hQ I FrC.rf q.k
    rw [cif_f hn] at fin
    exact fin
  refine w_X11_may q.s _ _ ⟨fun c => vpP q.w ((cP_r q).mp c) (by decide) (by decide), fun _ c => vpP q.w ((cP_r q).mp c) (by decide) (by decide), br_c (fun c1 => ?_) (fun c1 => no fun e => c1 ((bgC q).mpr e))⟩
  have c1 := (bgC q).mp c1
  rw [cif_t c1] at hQ
  obtain ⟨⟨⟨b, hb, rfl⟩, -⟩, ⟨g, hg, rfl⟩, -⟩ := c1
  rw [nI_clamp (by omega), nI_clamp (by omega)] at hQ
  refine c_letsWed q hb hg (fun I1 j1 k1 _ _ _ => qi_i ?_)
  rw [bI_cif]
  exact hQ I1 j1.fr k1
theorem m_may (hs : SL h) (w : Wf V) (hV : MV I V) {b g : Int32} (hQ : ∀ I', FrM I I' → Q (some (.int (mayQ V b g))) h I' L) : (CT E mX12_may (d + 5) 0 0 [.ref (eB E + 83), .int b, .int g] h I L Q) := by
  have n20 := w.P.n20
  unfold mayQ at hQ
  have hV1 : MV (uI I 83 0 0) V := hV.fr FrM.u0
  have no : (¬ bgQ V b g) → Q (some (.int 0)) h (uI I 83 0 0) L := fun hn => by
    have fin := hQ _ (FrM.u0 (I := I))
    rw [cif_f hn] at fin
    exact fin
  refine w_X12_may hs _ _ ⟨fun c _ => vpP w ((mP_r w hV).mp c) (by decide) (by decide), fun _ c _ => vpP w ((mP_r w hV).mp c) (by decide) (by decide), br_c (fun c1 => ?_) (fun c1 => no fun e => c1 ((bgM w hV).mpr e))⟩
  have c1 := (bgM w hV).mp c1
  rw [cif_t c1] at hQ
  obtain ⟨⟨⟨b, hb, rfl⟩, -⟩, ⟨g, hg, rfl⟩, -⟩ := c1
  rw [nI_clamp (by omega), nI_clamp (by omega)] at hQ
  refine m_mayWed hs w hV1 hb hg (fun I1 l1 _ => qi_i ?_)
  rw [bI_cif]
  exact hQ I1 (FrM.tr FrM.u0 l1.fr)
theorem c_liking (q : CQ h I V) {p o : Int32} (hQ : ∀ I', FrC I I' → Kc I' V → Q (some (.int (likQ V p o))) h I' L) : (CT E mX11_liking (d + 5) 0 0 [.ref (eB E + 0), .int p, .int o] h I L Q) := by
  have n20 := q.w.P.n20
  unfold likQ at hQ
  have no : (¬ (inN p (cP V) ∧ inN o (cP V) ∧ ¬ V 97 p.toNatClampNeg = V 97 o.toNatClampNeg)) → Q (some (.int (-1000000))) h I L := fun hn => by
    have fin := hQ I FrC.rf q.k
    rw [cif_f hn] at fin
    exact fin
  refine w_X11_liking q.s _ _ (br_c (fun c1 => br_c (fun c2 => ?_) (fun c2 => no fun e => c2 ((cP_r q).mpr e.2.1))) (fun c1 => no fun e => c1 ((cP_r q).mpr e.1)))
  have c1 := (cP_r q).mp c1
  have c2 := (cP_r q).mp c2
  have i1 := c1
  have i2 := c2
  obtain ⟨p, hp, rfl⟩ := c1
  obtain ⟨o, ho, rfl⟩ := c2
  rw [nI_clamp (by omega), nI_clamp (by omega)] at hQ no ⊢
  rw [bP_kin q.b _ (by omega), bP_kin q.b _ (by omega)]
  refine ⟨vpP q.w i1 (by decide) (by decide), vpP q.w i2 (by decide) (by decide), br_c (fun c => no fun e => e.2.2 c) (fun c => ?_)⟩
  rw [cif_t ⟨i1, i2, c⟩] at hQ
  exact c_likes q hp ho (fun I1 j1 k1 => qi_i (hQ I1 j1.fr k1))
theorem m_liking (hs : SL h) (w : Wf V) (hV : MV I V) {p o : Int32} (hQ : ∀ I', FrM I I' → Q (some (.int (likQ V p o))) h I' L) : (CT E mX12_liking (d + 5) 0 0 [.ref (eB E + 83), .int p, .int o] h I L Q) := by
  have n20 := w.P.n20
  unfold likQ at hQ
  have hV1 : MV (uI I 83 0 0) V := hV.fr FrM.u0
  have no : (¬ (inN p (cP V) ∧ inN o (cP V) ∧ ¬ V 97 p.toNatClampNeg = V 97 o.toNatClampNeg)) → Q (some (.int (-1000000))) h (uI I 83 0 0) L := fun hn => by
    have fin := hQ _ (FrM.u0 (I := I))
    rw [cif_f hn] at fin
    exact fin
  refine w_X12_liking hs _ _ (br_c (fun c1 => br_c (fun c2 => ?_) (fun c2 => no fun e => c2 ((mP_r w hV).mpr e.2.1))) (fun c1 => no fun e => c1 ((mP_r w hV).mpr e.1)))
  have c1 := (mP_r w hV).mp c1
  have c2 := (mP_r w hV).mp c2
  have i1 := c1
  have i2 := c2
  obtain ⟨p, hp, rfl⟩ := c1
  obtain ⟨o, ho, rfl⟩ := c2
  rw [nI_clamp (by omega), nI_clamp (by omega)] at hQ no ⊢
  rw [hV 97 (by decide) (by decide)]
  refine ⟨vpP w i1 (by decide) (by decide), vpP w i2 (by decide) (by decide), br_c (fun c => no fun e => e.2.2 c) (fun c => ?_)⟩
  rw [cif_t ⟨i1, i2, c⟩] at hQ
  exact m_likingOf hs w hV1 hp ho (fun I1 l1 => qi_i (hQ I1 (FrM.tr FrM.u0 l1.fr)))
end Q2
