/-! the law: every call (law2.py) -/
section LAW
variable {h h' : mS} {I I' V V' : mI}
theorem Rel.mc (r : Rel h I V) (f : FrC I I') : MV I' V := fun a h1 h2 => by rw [f a (by omega)]; exact r.2.1 a h1 h2
theorem Rel.mu (r : Rel h I V) (f : UC I I') : MV I' V := fun a h1 h2 => by rw [f a (by omega)]; exact r.2.1 a h1 h2
theorem Rel.mt (r : Rel h I V) (f : UT h I I') : MV I' V := fun a h1 h2 => by
  have := r.1.s.1
  rw [f a (by omega)]; exact r.2.1 a h1 h2
theorem UC.ut (f : UC I I') : UT h I I' := fun a ha => f a (by omega)
theorem sub6 {n j : Nat} (hn : n ≤ 3072) (hj : j ≤ 4000) : (Int32.ofNat n - 6 < nI j) ↔ n < j + 6 := by
  have e : (Int32.ofNat n - 6).toInt = (n : Int) - 6 := by
    show (nI n - nI 6).toInt = _
    rw [Int32.toInt_sub, nI_toInt (by omega), nI_toInt (by decide)]
    exact Int.bmod_eq_of_le (by omega) (by omega)
  rw [fa_lt, e, nI_toInt (by omega)]
  omega
theorem law_loop {E : Envt} {d : Nat} {Q : Pst} (hQ : ∀ h I L, Q (some (.int 1)) h I L) (hN : eN E ≤ 3072) : ∀ m j h I L V, eN E ≤ j + 6 * m → j ≤ 3078 → Rel h I V → J E mL_law (d + 11) Q (50 * m + 50) (2000 * m + 2000) 18 [some (.ref (eb E)), some (.ref (eB E + 0)), some (.ref (eB E + 83)), some (.int (nI j))] [] h I L := by
  intro m
  induction m with
  | zero =>
    intro j h I L V h1 hj r
    refine J.less (bc' := 0 + 50) (bs' := 0 + 2000) (w_L_law_18 r.1.s _ (br_t ((sub6 hN (by omega)).mpr (by omega)) (hQ h I L))) (by omega) (by omega)
  | succ m ih =>
    intro j h I L V h1 hj r
    refine J.less (bc' := (50 * m + 50) + 50) (bs' := (2000 * m + 2000) + 2000) (w_L_law_18 r.1.s _ ?_) (by omega) (by omega)
    refine ⟨fun _ => hQ h I L, fun c => ?_⟩
    rw [sub6 hN (by omega)] at c
    have nx : ∀ {h' : mS} {I' : mI} {L' : mL} {V' : mI}, Rel h' I' V' → J E mL_law (d + 11) Q (50 * m + 50) (2000 * m + 2000) 18 [some (.ref (eb E)), some (.ref (eB E + 0)), some (.ref (eB E + 83)), some (.int (nI j + 6))] [] h' I' L' := fun {h' I' L' V'} r' => by
      have e6 : nI j + 6 = nI (j + 6) := by rw [show (6 : Int32) = nI 6 from rfl, nI_add]
      rw [e6]
      exact ih (j + 6) h' I' L' V' (by omega) (by omega) r'
    have v1 : vp_in (nI j + 1) (eN E) := by rw [show (1 : Int32) = nI 1 from rfl, nI_add]; exact vp_in_nI (by omega) (by omega)
    have v2 : vp_in (nI j + 2) (eN E) := by rw [show (2 : Int32) = nI 2 from rfl, nI_add]; exact vp_in_nI (by omega) (by omega)
    have v3 : vp_in (nI j + 3) (eN E) := by rw [show (3 : Int32) = nI 3 from rfl, nI_add]; exact vp_in_nI (by omega) (by omega)
    have v4 : vp_in (nI j + 4) (eN E) := by rw [show (4 : Int32) = nI 4 from rfl, nI_add]; exact vp_in_nI (by omega) (by omega)
    have v5 : vp_in (nI j + 5) (eN E) := by rw [show (5 : Int32) = nI 5 from rfl, nI_add]; exact vp_in_nI (by omega) (by omega)
    have t5 := r.1.w.S.t5
    have h147 := r.1.s.1
    refine ⟨vp_in_nI (by omega) (by omega), fun _ => ?_, fun _ => ?_, fun _ => ?_, fun _ => ?_, fun _ => ?_, fun _ => ?_, fun _ => ?_, fun _ => ?_, fun _ => ?_, fun _ => ?_, fun _ => ?_, fun _ => ?_, fun _ => ?_, fun _ => ?_, fun _ => ?_, fun _ => ?_, fun _ => ?_, fun _ => ?_, fun _ => ?_, fun _ => ?_, fun _ => ?_, fun _ => ?_, fun _ => ?_, fun _ => ?_, fun _ => ?_, fun _ => ?_, fun _ => ?_, fun _ => ?_, fun _ => ?_, fun _ => ?_, fun _ => ?_, fun _ => ?_, fun _ => ?_, fun _ => ?_, fun _ => ?_, fun _ _ _ _ _ _ _ _ _ _ _ _ _ _ _ _ _ _ _ _ _ _ _ _ _ _ _ _ _ _ _ _ _ _ _ => nx r⟩
    · refine ⟨v1, v2, v3, ?_⟩
      exact c_house r.1 (fun I1 u1 q1 => qi_i ⟨v1, v2, v3, m_house r.1.s r.1.w (r.mu u1) (fun I2 u2 w2 => qi_i ⟨fun _ => nx (r.fu u1 q1 u2 w2 s0_hou), fun z => absurd rfl z⟩)⟩)
    · refine ⟨v1, v2, v3, v4, ?_⟩
      exact c_person r.1 (fun I1 u1 q1 => qi_i ⟨v1, v2, v3, v4, m_person r.1.s r.1.w (r.mu u1) (fun I2 u2 w2 => qi_i ⟨fun _ => nx (r.fu u1 q1 u2 w2 s0_per), fun z => absurd rfl z⟩)⟩)
    · refine ⟨v1, v2, v3, ?_⟩
      exact c_road r.1 (fun I1 u1 q1 => qi_i ⟨v1, v2, v3, m_road r.1.s (r.mu u1) (fun I2 u2 w2 => qi_i ⟨fun _ => nx (r.fu u1 q1 u2 w2 s0_roa), fun z => absurd rfl z⟩)⟩)
    · refine ⟨v1, v2, v3, ?_⟩
      exact c_feud r.1 (fun I1 u1 q1 => qi_i ⟨v1, v2, v3, m_feud r.1.s r.1.w (r.mu u1) (fun I2 u2 w2 => qi_i ⟨fun _ => nx (r.fu u1 q1 u2 w2 (s0_feu r.1.w)), fun z => absurd rfl z⟩)⟩)
    · refine ⟨v1, v2, ?_⟩
      exact c_harvest r.1 (fun I1 u1 q1 => qi_i ⟨v1, v2, m_harvest r.1.s r.1.w (r.mu u1) (fun I2 u2 w2 => qi_i ⟨fun _ => nx (r.fu u1 q1 u2 w2 (s0_har r.1.w)), fun z => absurd rfl z⟩)⟩)
    · refine ⟨v1, v2, v3, ?_⟩
      exact c_parent r.1 (fun I1 u1 q1 => qi_i ⟨v1, v2, v3, m_parent r.1.s r.1.w (r.mu u1) (fun I2 u2 w2 => qi_i ⟨fun _ => nx (r.fu u1 q1 u2 w2 s0_prt), fun z => absurd rfl z⟩)⟩)
    · refine ⟨v1, v2, ?_⟩
      exact c_heard r.1 (qi_i ⟨v1, v2, m_heard r.1.s r.1.w r.2.1 (fun I2 f2 => qi_i ⟨fun _ => nx (r.fq FrC.rf r.1.k f2), fun z => absurd rfl z⟩)⟩)
    · refine ⟨v1, ?_⟩
      exact c_die r.1 (fun I1 u1 q1 => qi_i ⟨v1, m_die r.1.s r.1.w (r.mu u1) (fun I2 u2 w2 => qi_i ⟨fun _ => nx (r.fu u1 q1 u2 w2 (s0_die r.1.w)), fun z => absurd rfl z⟩)⟩)
    · exact c_year r.1 (fun I1 u1 q1 => qi_i (m_year r.1.s r.1.w (r.mu u1) (fun I2 u2 w2 => qi_i ⟨fun _ => nx (r.fu u1 q1 u2 w2 s0_yea), fun z => absurd rfl z⟩)))
    · refine ⟨v1, v2, v3, v4, ?_⟩
      exact c_kin r.1 (fun I1 f1 k1 => qi_i ⟨v1, v2, v3, v4, m_kin r.1.s r.1.w (r.mc f1) (fun I2 f2 => qi_i ⟨fun _ => nx (r.fq f1 k1 f2), fun z => absurd rfl z⟩)⟩)
    · refine ⟨v1, v2, v3, v4, v5, ?_⟩
      exact c_chain r.1 (fun I1 f1 k1 => qi_i ⟨v1, v2, v3, v4, v5, m_chain r.1.s r.1.w (r.mc f1) (fun I2 f2 => qi_i ⟨fun _ => nx (r.fq f1 k1 f2), fun z => absurd rfl z⟩)⟩)
    · refine ⟨v1, v2, ?_⟩
      exact c_tell r.1 (qi_i ⟨v1, v2, m_tell r.1.s r.1.w r.2.1 (fun I2 f2 => qi_i ⟨fun _ => nx (r.fq FrC.rf r.1.k f2), fun z => absurd rfl z⟩)⟩)
    · refine ⟨v1, v2, ?_⟩
      exact c_about r.1 (qi_i ⟨v1, v2, m_about r.1.s r.1.w r.2.1 (fun I2 f2 => qi_i ⟨fun _ => nx (r.fq FrC.rf r.1.k f2), fun z => absurd rfl z⟩)⟩)
    · refine ⟨v1, v2, v3, v4, v5, ?_⟩
      exact c_feed r.1 (fun I1 u1 q1 => qi_i ⟨v1, v2, v3, v4, v5, m_feed r.1.s r.1.w (r.mu u1) (fun I2 u2 w2 => qi_i ⟨fun _ => nx (r.fu u1 q1 u2 w2 (s0_fee r.1.w)), fun z => absurd rfl z⟩)⟩)
    · refine ⟨v1, ?_⟩
      exact c_end r.1 (fun I1 u1 q1 => qi_i ⟨v1, m_end r.1.s (r.mu u1) (fun I2 u2 w2 => qi_i ⟨fun _ => nx (r.fu u1 q1 u2 w2 s0_end), fun z => absurd rfl z⟩)⟩)
    · refine ⟨v1, ?_⟩
      exact c_text (A := I) r.1 r.2.2.1 (fun h1 I1 uh u1 e51 q1 => gi_i ⟨q1.s, v1, m_text (A := I) q1.s r.1.w (fun i hi => r.1.w.S.tb i (by omega)) (r.mt u1) (fun a h1 h2 => u1 a (by omega)) (fun I2 L2 u2 w2 => qiL_i ⟨fun _ => nx (r.fh uh u1 e51 q1 u2 w2 s0_tex), fun z => absurd rfl z⟩)⟩)
    · refine ⟨v1, ?_⟩
      exact c_fault r.1 (qi_i ⟨v1, m_fault r.1.s r.2.1 (fun I2 f2 => qi_i ⟨fun _ => nx (r.fq FrC.rf r.1.k f2), fun z => absurd rfl z⟩)⟩)
    · refine ⟨v1, v2, v3, v4, ?_⟩
      exact c_read r.1 (fun I1 f1 k1 => qi_i ⟨v1, v2, v3, v4, m_read r.1.s r.1.w (r.mc f1) (fun I2 f2 => qi_i ⟨fun _ => nx (r.fq f1 k1 f2), fun z => absurd rfl z⟩)⟩)
    · refine ⟨v1, v2, ?_⟩
      exact c_may r.1 (fun I1 f1 k1 => qi_i ⟨v1, v2, m_may r.1.s r.1.w (r.mc f1) (fun I2 f2 => qi_i ⟨fun _ => nx (r.fq f1 k1 f2), fun z => absurd rfl z⟩)⟩)
    · refine ⟨v1, v2, ?_⟩
      exact c_liking r.1 (fun I1 f1 k1 => qi_i ⟨v1, v2, m_liking r.1.s r.1.w (r.mc f1) (fun I2 f2 => qi_i ⟨fun _ => nx (r.fq f1 k1 f2), fun z => absurd rfl z⟩)⟩)
    · refine ⟨v1, v2, ?_⟩
      exact c_ask r.1 (fun I1 u1 q1 => qi_i ⟨v1, v2, m_ask r.1.s r.1.w (r.mu u1) (fun I2 u2 w2 => qi_i ⟨fun _ => nx (r.fu u1 q1 u2 w2 s0_ask), fun z => absurd rfl z⟩)⟩)
    · refine ⟨v1, ?_⟩
      exact c_promise r.1 (fun I1 u1 q1 => qi_i ⟨v1, m_promise r.1.s r.1.w (r.mu u1) (fun I2 u2 w2 => qi_i ⟨fun _ => nx (r.fu u1 q1 u2 w2 (s0_prm r.1.w)), fun z => absurd rfl z⟩)⟩)
    · refine ⟨v1, ?_⟩
      exact c_wed r.1 (fun h1 I1 uh u1 q1 => gi_i ⟨q1.s, v1, m_wed q1.s r.1.w (r.mu u1) (fun I2 u2 w2 => qi_i ⟨fun _ => nx (r.fh uh u1.ut (by rw [u1 51 (by omega)]; exact r.2.2.1) q1 u2 w2 (s0_wed r.1.w)), fun z => absurd rfl z⟩)⟩)
    · refine ⟨v1, v2, ?_⟩
      exact c_breaks r.1 (fun I1 u1 q1 => qi_i ⟨v1, v2, m_breaks r.1.s r.1.w (r.mu u1) (fun I2 u2 w2 => qi_i ⟨fun _ => nx (r.fu u1 q1 u2 w2 (s0_brk r.1.w)), fun z => absurd rfl z⟩)⟩)
    · refine ⟨v1, v2, ?_⟩
      exact c_match r.1 (fun I1 f1 k1 => qi_i ⟨v1, v2, m_match r.1.s r.1.w (r.mc f1) (fun I2 f2 => qi_i ⟨fun _ => nx (r.fq f1 k1 f2), fun z => absurd rfl z⟩)⟩)
    · refine ⟨v1, ?_⟩
      exact c_late r.1 (fun I1 f1 k1 => qi_i ⟨v1, m_late r.1.s r.1.w (r.mc f1.fr) (fun I2 f2 => qi_i ⟨fun _ => nx (r.fq f1.fr k1 f2), fun z => absurd rfl z⟩)⟩)
    · refine ⟨v1, ?_⟩
      exact c_parts r.1 (fun I1 f1 k1 => qi_i ⟨v1, m_parts r.1.s r.1.w (r.mc f1.fr) (fun I2 f2 => qi_i ⟨fun _ => nx (r.fq f1.fr k1 f2), fun z => absurd rfl z⟩)⟩)
    · refine ⟨v1, ?_⟩
      exact c_best r.1 (fun I1 f1 k1 => qi_i ⟨v1, m_best r.1.s r.1.w (r.mc f1) (fun I2 L2 f2 => qiL_i ⟨fun _ => nx (r.fq f1 k1 f2), fun z => absurd rfl z⟩)⟩)
    · refine ⟨v1, ?_⟩
      exact c_bestFor r.1 (fun I1 f1 k1 => qi_i ⟨v1, m_bestFor r.1.s r.1.w (r.mc f1) (fun I2 L2 f2 => qiL_i ⟨fun _ => nx (r.fq f1 k1 f2), fun z => absurd rfl z⟩)⟩)
    · refine ⟨v1, ?_⟩
      exact c_stable r.1 (fun I1 f1 k1 => qi_i ⟨v1, m_stable r.1.s r.1.w (r.mc f1) (fun I2 f2 => qi_i ⟨fun _ => nx (r.fq f1 k1 f2), fun z => absurd rfl z⟩)⟩)
    · refine ⟨v1, ?_⟩
      exact c_ring r.1 (fun I1 f1 k1 => qi_i ⟨v1, m_ring r.1.s r.1.w (r.mc f1) (fun I2 f2 => qi_i ⟨fun _ => nx (r.fq f1 k1 f2), fun z => absurd rfl z⟩)⟩)
    · refine ⟨v1, v2, ?_⟩
      exact c_ringed r.1 (fun I1 f1 k1 => qi_i ⟨v1, v2, m_ringed r.1.s r.1.w (r.mc f1) (fun I2 f2 => qi_i ⟨fun _ => nx (r.fq f1 k1 f2), fun z => absurd rfl z⟩)⟩)
    · refine ⟨v1, ?_⟩
      exact c_count r.1 (fun I1 f1 k1 => qi_i ⟨v1, m_count r.1.s r.1.w (r.mc f1) (fun I2 f2 => qi_i ⟨fun _ => nx (r.fq f1 k1 f2), fun z => absurd rfl z⟩)⟩)
    · refine ⟨v1, ?_⟩
      refine c_image r (fun hn => gi_i ⟨r.1.s, v1, m_image r.1.s r.1.w r.2.1 (fun _ I2 u2 w2 => qi_i ⟨fun _ => nx (r.fu UC.rf r.1 u2 w2 S0.rf), fun z => absurd rfl z⟩) (fun k I2 hk hx _ _ => (hn ⟨k, hk, hx⟩).elim)⟩) (fun k h1 I1 b hk hx hs1 ui hb e46 lo bk hap hd hf => gi_i ⟨hs1, v1, ?_⟩)
      have mv1 : MV I1 V := fun a h1 h2 => by rw [ui.2.2.2 a (by omega) (by omega)]; exact r.2.1 a h1 h2
      refine m_image hs1 r.1.w mv1 (fun hn => (hn ⟨k, hk, hx⟩).elim) (fun k2 I2 hk2 hx2 um w2 => qi_i ?_)
      have ek : k2 = k := (nI_eq (by omega) (by omega)).mp (hx2.symm.trans hx)
      subst ek
      exact ⟨fun _ => nx (r.img hk hs1 ui hb e46 lo bk hap hd hf um w2), fun z => absurd rfl z⟩
    · refine ⟨v1, ?_⟩
      refine c_again r (fun hc => gi_i ⟨r.1.s, v1, ?_⟩) (fun k h1 I1 hk hx hne uh f1 q1 => gi_i ⟨q1.s, v1, ?_⟩)
      · refine m_again r.1.s r.2.1 (fun k hk hn => ?_) (fun _ I2 u2 w2 => qi_i ⟨fun _ => nx (r.fu UC.rf r.1 u2 w2 S0.rf), fun z => absurd rfl z⟩) (fun k I2 hk hx hne _ _ => ?_)
        · rcases r.2.2.2.1 k hk with ⟨-, z⟩ | ⟨b, -, -, -, -, -, z⟩
          · exact absurd z hn
          · exact z
        · rcases hc with hc | ⟨k2, hk2, hx2, z⟩
          · exact (hc ⟨k, hk, hx⟩).elim
          · have ek : k2 = k := (nI_eq (by omega) (by omega)).mp (hx2.symm.trans hx)
            subst ek
            exact absurd z hne
      · have mv1 : MV I1 V := fun a h1 h2 => by rw [f1 a (by omega)]; exact r.2.1 a h1 h2
        have i146 : I1 146 = I 146 := f1 146 (by omega)
        refine m_again q1.s mv1 (fun k hk hn => ?_) (fun hc I2 u2 w2 => qi_i ?_) (fun k2 I2 hk2 hx2 _ um w2 => qi_i ?_)
        · rw [i146] at hn
          rcases r.2.2.2.1 k hk with ⟨-, z⟩ | ⟨b, -, -, -, -, -, z⟩
          · exact absurd z hn
          · exact z
        · exfalso
          rcases hc with hc | ⟨k2, hk2, hx2, z⟩
          · exact hc ⟨k, hk, hx⟩
          · have ek : k2 = k := (nI_eq (by omega) (by omega)).mp (hx2.symm.trans hx)
            subst ek
            rw [i146] at z
            exact hne z
        · have ek : k2 = k := (nI_eq (by omega) (by omega)).mp (hx2.symm.trans hx)
          subst ek
          exact ⟨fun _ => nx (r.agn hk uh f1 q1 um w2), fun z => absurd rfl z⟩
end LAW
