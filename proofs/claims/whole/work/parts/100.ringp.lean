/-! ring and ringed -/
section RG
variable {E : Envt} {d : Nat} {Q : Pst} {h : mS} {I V : mI} {L : mL}
theorem rng_le {x : Int32} {m : Nat} {lit : Int32} (hl : lit = nI m) (hm : m + 1 < 2 ^ 31) : (¬ x < 0 ∧ ¬ lit < x) ↔ inN x (m + 1) := by
  rw [← in_rng x hm, hl]
  have : (¬ nI m < x) ↔ ¬ nI (m + 1) ≤ x := by
    rw [fa_lt, fa_le, nI_toInt (by omega), nI_toInt (by omega)]
    omega
  rw [this]
theorem c_ring (q : CQ h I V) {x : Int32} (hQ : ∀ I', FrC I I' → Kc I' V → Q (some (.int (ringA V x))) h I' L) : CT E mX11_ring (d + 8) 0 0 [.ref (eB E + 0), .int x] h I L Q := by
  have hr : (¬ x < 0 ∧ ¬ 1 < x) ↔ inN x 2 := rng_le (m := 1) rfl (by decide)
  refine w_X11_ring (d := d + 1) q.s _ (br_c (fun c => ?_) (fun c => ?_))
  · refine c_gather q (fun I1 f1 k1 g1 => qv_i ?_)
    have q1 : CQ h I1 V := q.fr (fun a ha => f1 a (by omega)) k1
    refine c_search (d := d) q1 g1 (fun I2 f2 s2 => qv_i ?_)
    have fin := hQ I2 (fun a ha => by rw [f2 a (by omega)]; exact f1 a (by omega)) (k1.cg (f2 57 (by decide)) (f2 58 (by decide)))
    obtain ⟨o1, o2, -, -⟩ := rg_ok q.w s2.1
    rw [s2.2.2.1, s2.2.2.2.1]
    unfold ringA at fin
    by_cases c0 : rgN V = 0
    · rw [cif_f (fun e => e.2 c0)] at fin
      exact br_t (by rw [c0]; rfl) fin
    · rw [cif_t ⟨hr.mp c, c0⟩] at fin
      exact br_f (nI_ne0 (by omega) (by omega)) fin
  · have fin := hQ I FrC.rf q.k
    unfold ringA at fin
    rw [cif_f (fun e => c (hr.mpr e.1))] at fin
    exact fin
theorem m_ring (hs : SL h) (w : Wf V) (hV : MV I V) {x : Int32} (hQ : ∀ I', FrM I I' → Q (some (.int (ringA V x))) h I' L) : (CT E mX12_ring (d + 8) 0 0 [.ref (eB E + 83), .int x] h I L Q) := by
  have hr : (¬ x < 0 ∧ ¬ 1 < x) ↔ inN x 2 := rng_le (m := 1) rfl (by decide)
  refine w_X12_ring hs _ (br_c (fun c => ?_) (fun c => ?_))
  · refine m_findRing hs w (hV.fr FrM.u) (fun I1 f1 s1 => qv_i ?_)
    have fin := hQ I1 (FrM.tr (FrM.u (I := I) (a := 83) (i := 0) (x := 0)) f1)
    obtain ⟨o1, o2, -, -⟩ := rg_ok w s1.1
    rw [s1.2.2.1]
    unfold ringA at fin
    by_cases c0 : rgN V = 0
    · rw [cif_f (fun e => e.2 c0)] at fin
      rw [c0, if_pos (show nI 0 = 0 from rfl)]
      exact fin
    · rw [cif_t ⟨hr.mp c, c0⟩] at fin
      rw [if_neg (nI_ne0 (by omega) (by omega)), s1.2.2.2.1 c0]
      exact fin
  · have fin := hQ _ (FrM.u (I := I) (a := 83) (i := 0) (x := 0))
    unfold ringA at fin
    rw [cif_f (fun e => c (hr.mpr e.1))] at fin
    exact fin
theorem c_linkAt (hs : SL h) (w : Wf V) (hS : SR I V) {k : Nat} (hk : k < rgN V) (hQ : Q (some (.int (nI (rgX V k)))) h I L) : (CT E mX9_linkAt d 0 0 [.ref (eB E + 77), .int (nI k)] h I L Q) := by
  obtain ⟨o1, o2, o3, o4⟩ := rg_ok w hS.1
  refine w_X9_linkAt hs _ ?_
  rw [hS.2.2.1, nI_1]
  rintro y2 rfl
  obtain ⟨k1, k2, -⟩ := o4 k hk
  have e : (if nI (rgN V) ≤ nI (k + 1) then 0 else nI (k + 1) : Int32) = nI (if k + 1 < rgN V then k + 1 else 0) := by
    by_cases c : k + 1 < rgN V
    · rw [if_neg (nI_ge c (by omega)), if_pos c]
    · rw [if_pos (nI_le (by omega) (by omega)), if_neg c]; rfl
  have hlt : (if k + 1 < rgN V then k + 1 else 0) < rgN V := by split <;> omega
  have hlt4 : (if k + 1 < rgN V then k + 1 else 0) < 4 := by omega
  have k3 := (o4 _ hlt).1
  rw [e, nI_clamp (show k < 2 ^ 31 by omega), nI_clamp (show (if k + 1 < rgN V then k + 1 else 0) < 2 ^ 31 by omega), hS.2.2.2.2 k hk, hS.2.2.2.2 _ hlt, N8, pk_mul, nI_add, Nat.mul_comm]
  exact ⟨vp_in_nI (by omega) (by decide), vp_in_nI hlt4 (by decide), hQ⟩
theorem c_ringed (q : CQ h I V) {k x : Int32} (hQ : ∀ I', FrC I I' → Kc I' V → Q (some (.int (rgdA V k x))) h I' L) : CT E mX11_ringed (d + 8) 0 0 [.ref (eB E + 0), .int k, .int x] h I L Q := by
  have hr : (¬ x < 0 ∧ ¬ 2 < x) ↔ inN x 3 := rng_le (m := 2) rfl (by decide)
  have hk : (¬ k < 0 ∧ ¬ 3 < k) ↔ inN k 4 := rng_le (m := 3) rfl (by decide)
  have work : ∀ (Q' : Pst), True := fun _ => trivial
  refine w_X11_ringed (d := d + 1) q.s _ _ (br_c (fun c1 => br_c (fun c => ?_) (fun c => ?_)) (fun c1 => ?_))
  · refine c_gather q (fun I1 f1 k1 g1 => qv_i ?_)
    have q1 : CQ h I1 V := q.fr (fun a ha => f1 a (by omega)) k1
    refine c_search (d := d) q1 g1 (fun I2 f2 s2 => qv_i ?_)
    have fin := hQ I2 (fun a ha => by rw [f2 a (by omega)]; exact f1 a (by omega)) (k1.cg (f2 57 (by decide)) (f2 58 (by decide)))
    obtain ⟨o1, o2, o3, o4⟩ := rg_ok q.w s2.1
    obtain ⟨kk, hkk, rfl⟩ := hk.mp c1
    rw [s2.2.2.1, nI_ltI (by omega) (by omega)]
    unfold rgdA at fin
    refine br_c (fun c2 => ?_) (fun c2 => ?_)
    · rw [cif_t ⟨⟨kk, c2, rfl⟩, hr.mp c⟩, nI_clamp (by omega)] at fin
      obtain ⟨v1, v2, v3⟩ := o4 kk c2
      obtain ⟨t1, t2⟩ := s2.2.1 _ v2
      obtain ⟨t3, t4, t5⟩ := t2 v3
      refine ⟨fun e => ⟨vp_in_nI (by omega) (by decide), ?_⟩, fun e => ?_, fun e1 e2 => ?_⟩
      · rw [if_pos e] at fin
        rw [nI_clamp (by omega), s2.2.2.2.2 kk c2]
        exact fin
      · rw [if_neg (by rw [e]; decide), if_pos e] at fin
        refine w_X9_brideAt q.s _ ?_
        refine c_linkAt q.s q.w s2 c2 (qi_i ⟨vp_in_nI v2 (by decide), qi_i ?_⟩)
        rw [nI_clamp (by omega), t3]
        exact fin
      · rw [if_neg e1, if_neg e2] at fin
        refine w_X9_groomAt q.s _ ?_
        refine c_linkAt q.s q.w s2 c2 (qi_i ⟨vp_in_nI v2 (by decide), qi_i ?_⟩)
        rw [nI_clamp (by omega), t4]
        exact fin
    · rw [cif_f] at fin
      · exact fin
      · rintro ⟨⟨j, hj, e⟩, -⟩
        rw [nI_eq (by omega) (by omega)] at e
        omega
  · have fin := hQ I FrC.rf q.k
    unfold rgdA at fin
    rw [cif_f (fun e => c (hr.mpr e.2))] at fin
    exact fin
  · have fin := hQ I FrC.rf q.k
    unfold rgdA at fin
    rw [cif_f] at fin
    · exact fin
    · rintro ⟨⟨j, hj, e⟩, -⟩
      have := rgN_4 V
      exact c1 (hk.mpr ⟨j, by omega, e⟩)
theorem m_ringed (hs : SL h) (w : Wf V) (hV : MV I V) {k x : Int32} (hQ : ∀ I', FrM I I' → Q (some (.int (rgdA V k x))) h I' L) : (CT E mX12_ringed (d + 8) 0 0 [.ref (eB E + 83), .int k, .int x] h I L Q) := by
  have hr : (¬ x < 0 ∧ ¬ 2 < x) ↔ inN x 3 := rng_le (m := 2) rfl (by decide)
  have r4' := rgN_4 V
  refine w_X12_ringed hs _ _ (br_c (fun c => ?_) (fun c => ?_))
  · refine m_findRing hs w (hV.fr FrM.u) (fun I1 f1 s1 => qv_i ?_)
    have fin := hQ I1 (FrM.tr (FrM.u (I := I) (a := 83) (i := 0) (x := 0)) f1)
    obtain ⟨o1, o2, o3, o4⟩ := rg_ok w s1.1
    rw [s1.2.2.1]
    have hk : (¬ k < 0 ∧ ¬ nI (rgN V) - 1 < k) ↔ inN k (rgN V) := rngM (by omega)
    unfold rgdA at fin
    refine br_c (fun c1 => ?_) (fun c1 => ?_)
    · obtain ⟨kk, hkk, rfl⟩ := hk.mp c1
      rw [cif_t ⟨⟨kk, hkk, rfl⟩, hr.mp c⟩, nI_clamp (by omega)] at fin
      obtain ⟨v1, v2, v3⟩ := o4 kk hkk
      have hm : (kk + 1) % rgN V = if kk + 1 < rgN V then kk + 1 else 0 := by
        by_cases c2 : kk + 1 < rgN V
        · rw [if_pos c2, Nat.mod_eq_of_lt c2]
        · rw [if_neg c2, show kk + 1 = rgN V by omega, Nat.mod_self]
      have hlt : (if kk + 1 < rgN V then kk + 1 else 0) < rgN V := by split <;> omega
      have er : nI kk + 1 - (nI kk + 1) / nI (rgN V) * nI (rgN V) = nI (if kk + 1 < rgN V then kk + 1 else 0) := by rw [nI_1, pk_rem (by omega) (by omega) (by omega), hm]
      have k3 := (o4 _ hlt).1
      rw [er, nI_clamp (show kk < 2 ^ 31 by omega), nI_clamp (show (if kk + 1 < rgN V then kk + 1 else 0) < 2 ^ 31 by omega), s1.2.2.2.2 kk hkk, s1.2.2.2.2 _ hlt, N8, pk_mul, nI_add]
      obtain ⟨t1, t2⟩ := s1.2.1 _ v2
      obtain ⟨t3, t4⟩ := t2 v3
      refine ⟨vp_in_nI (by omega) (by decide), nI_ne0 (by omega) (by omega), vp_in_nI (by omega) (by decide), ?_⟩
      rintro y10 rfl
      have ex : 8 * rgK V kk + rgK V (if kk + 1 < rgN V then kk + 1 else 0) = rgX V kk := rfl
      rw [ex, nI_clamp (by omega), t3, t4]
      refine ⟨fun _ _ => vp_in_nI v2 (by decide), fun _ _ => vp_in_nI v2 (by decide), ?_⟩
      rintro y17 rfl
      exact fin
    · rw [cif_f (fun e => c1 (hk.mpr e.1))] at fin
      exact fin
  · have fin := hQ _ (FrM.u (I := I) (a := 83) (i := 0) (x := 0))
    unfold rgdA at fin
    rw [cif_f (fun e => c (hr.mpr e.2))] at fin
    exact fin
end RG
