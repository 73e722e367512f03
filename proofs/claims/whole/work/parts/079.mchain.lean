section ML
variable {E : Envt} {d : Nat} {Q : Pst} {h : mS} {I V : mI} {L : mL}
theorem m_nearer (hs : SL h) (w : Wf V) (hV : MV I V) {f m : Nat} {x : Int32} (hx : x = (-1) ∨ ∃ p, p < cP V ∧ x = nI p) (hf : f < 20) (hm : m < 20) (hP : paOK V (I 124))
    (hQ : ∀ (r : Int32) I', (∀ a, a ≠ 126 → I' a = I a) → (r = 0 ↔ ¬ ∃ p, p < 20 ∧ x = nI p ∧ dR (pr (I 124)) p f = m) → Q (some (.int r)) h I' L) : (CT E mX12_nearer (d + 1) 0 0 [.ref (eB E + 83), .int x, .int (nI f), .int (nI m)] h I L Q) := by
  have n20 := w.P.n20
  refine w_X12_nearer hs _ _ _ ?_
  rcases hx with rfl | ⟨p, hp, rfl⟩
  · refine br_t rfl (hQ 0 I (fun _ _ => rfl) ⟨fun _ => ?_, fun _ => rfl⟩)
    rintro ⟨p, h1, h2, -⟩
    exact m1_nI (by omega) h2.symm
  · refine br_f (m1_nI (by omega)) ?_
    refine m_findUp hs w hV (Or.inr rfl) hp hP (fun g hg => ⟨rfl, rfl, rfl, vp_in_nI hf (by decide), ?_⟩)
    refine hQ _ _ (fun a ha => sA_ne ha) ?_
    rw [sA_at, nI_clamp (by omega), hg f hf]
    have l9 := dR_99 (pr (I 124)) p f
    by_cases c : dR (pr (I 124)) p f = m
    · rw [c, bI_t rfl]
      exact ⟨fun e => absurd e (by decide), fun e => absurd ⟨p, by omega, rfl, c⟩ e⟩
    · rw [bI_f (fun e => c ((nI_eq (by omega) (by omega)).mp e))]
      refine ⟨fun _ => ?_, fun _ => rfl⟩
      rintro ⟨p', h1, h2, h3⟩
      rw [nI_eq (by omega) (by omega)] at h2
      subst h2
      exact c h3
theorem m_chain91 (hs : SL h) (w : Wf V) {P : Nat → Int32} (hP : paOK V P) {a b f u ww k : Nat} {x3 x4 : Int32} (ha : a < cP V) (hb : b < cP V) (hf : f < cP V) (hu : dR (pr P) a f = u) (hu2 : u < 20) (hw : dR (pr P) b f = ww) (hw2 : ww < 20) (hk : k ≤ u + ww)
    (hV : MV I V) (hI : I 124 = P) (hQ : ∀ I', (∀ a, a ≠ 126 → I' a = I a) → Q (some (.int (nI (if k ≤ u then riP P f u a k else skP P f ww b (k - u))))) h I' L) :
    (J E mX12_chain (d + 3) Q 0 0 91 [some (.ref (eB E + 83)), some (.int (nI a)), some (.int (nI b)), some (.int x3), some (.int x4), some (.int (nI k)), some (.int (nI (u + ww))), some (.int (nI f)), some (.int (nI u)), some (.int (nI a)), some (.int 0), none, none, none] [] h I L) := by
  have n20 := w.P.n20
  have go : ∀ s, s ≤ k → s ≤ u → (s = k ∨ s = u) → ∀ I1, (∀ a, a ≠ 126 → I1 a = I a) → (CT E mX12_findUp (d + 2) 0 0 [.ref (eB E + 83), .int (nI b), .ref (eB E + 126)] h I1 L (qv h L fun I2 => (J E mX12_chain (d + 3) Q 0 0 214 [some (.ref (eB E + 83)), some (.int (nI a)), some (.int (nI b)), some (.int x3), some (.int x4), some (.int (nI k)), some (.int (nI (u + ww))), some (.int (nI f)), some (.int (nI u)), some (.int (nI (riP P f u a s))), some (.int (nI s)), none, none, none] [] h I2 L))) := by
    intro s hsk hsu hend I1 g1
    have e124 : I1 124 = P := (g1 124 (by decide)).trans hI
    refine m_findUp hs w (fun c h1 h2 => (g1 c (by omega)).trans (hV c h1 h2)) (Or.inr rfl) hb (by rw [e124]; exact hP) (fun g hg => ⟨rfl, rfl, rfl, ?_⟩)
    rw [e124] at hg
    generalize hJ : sA I1 126 g = I2
    have e126 : ∀ c, c < 20 → I2 126 c = nI (dR (pr P) b c) := fun c hc => by rw [← hJ, sA_at]; exact hg c hc
    have f124 : I2 124 = P := by rw [← hJ, sA_ne (by decide)]; exact e124
    have fo : ∀ a, a ≠ 126 → I2 a = I a := fun a ha => by rw [← hJ, sA_ne ha]; exact g1 a ha
    by_cases c0 : k ≤ u
    · have : s = k := by omega
      subst this
      have q := hQ I2 fo
      rw [if_pos c0] at q
      exact w_X12_chain_214 hs _ _ _ _ _ _ _ _ _ _ (br_t (nI_le (Nat.le_refl _) (by omega)) q)
    · have : s = u := by omega
      subst this
      have start : riP P f s a s = f := by
        have := (riP_ok hu hu2 (by omega) s (Nat.le_refl _))
        have h0 : dR (pr P) (riP P f s a s) f = 0 := this.2.trans (by omega)
        rcases dR_spec (pr P) (riP P f s a s) f with ⟨x, y, z⟩ | ⟨x, y⟩
        · rw [h0] at y; exact y
        · omega
      have q := hQ I2 fo
      rw [if_neg c0] at q
      have K : ∀ t, t ≤ k - s → (J E mX12_chain (d + 3) Q 0 0 214 [some (.ref (eB E + 83)), some (.int (nI a)), some (.int (nI b)), some (.int x3), some (.int x4), some (.int (nI k)), some (.int (nI (s + ww))), some (.int (nI f)), some (.int (nI s)), some (.int (nI (skP P f ww b t))), some (.int (nI (s + t))), none, none, none] [] h I2 L) := by
        refine dn (k - s) ?_ ?_
        · exact w_X12_chain_214 hs _ _ _ _ _ _ _ _ _ _ (br_t (nI_le (by omega) (by omega)) q)
        · intro t ht ih
          refine w_X12_chain_214 hs _ _ _ _ _ _ _ _ _ _ (br_f (nI_ge (by omega) (by omega)) ?_)
          obtain ⟨l1, l2, l3⟩ := lsN_ok (skP_ex hw hw2 (by omega) (show b < 20 by omega) (s := t) (by omega))
          have es : skP P f ww b (t + 1) = lsN (fun c => pr P c (skP P f ww b t) ∧ dR (pr P) b c = ww - (t + 1)) 20 := rfl
          rw [es] at ih
          have hsk := skP_ok hw hw2 (by omega) (show b < 20 by omega) t (by omega)
          generalize lsN (fun c => pr P c (skP P f ww b t) ∧ dR (pr P) b c = ww - (t + 1)) 20 = k0 at l1 l2 l3 ih
          have ex : nI (s + ww) - nI (s + t) - 1 = nI (ww - (t + 1)) := by
            rw [pk_sub (by omega), show (1 : Int32) = nI 1 from rfl, pk_sub (by omega)]
            congr 1
            omega
          have K2 : ∀ c, c ≤ k0 → (J E mX12_chain (d + 3) Q 0 0 224 [some (.ref (eB E + 83)), some (.int (nI a)), some (.int (nI b)), some (.int x3), some (.int x4), some (.int (nI k)), some (.int (nI (s + ww))), some (.int (nI f)), some (.int (nI s)), some (.int (nI (skP P f ww b t))), some (.int (nI (s + t))), some (.int (nI c)), none, none] [] h I2 L) := by
            have e2 : ∀ c, 2 * nI c = nI (2 * c) := fun c => by rw [N2, pk_mul]
            refine dn k0 ?_ ?_
            · refine w_X12_chain_224 hs _ _ _ _ _ _ _ _ _ _ _ ⟨vp_in_nI l1 (by decide), ?_⟩
              rw [ex, nI_clamp (by omega), e126 k0 l1, l2.2, e2, nI_1, nI_1, nI_clamp (by omega), nI_clamp (by omega), f124]
              refine br_t rfl ⟨vp_in_nI (by omega) (by decide), ?_⟩
              rw [show s + t + 1 = s + (t + 1) by omega]
              by_cases c1 : P (2 * k0) = nI (skP P f ww b t)
              · exact br_t c1 ih
              · refine br_f c1 ⟨vp_in_nI (by omega) (by decide), br_t (l2.1.resolve_left c1) ih⟩
            · intro c hc ihc
              refine w_X12_chain_224 hs _ _ _ _ _ _ _ _ _ _ _ ⟨vp_in_nI (by omega) (by decide), ?_⟩
              rw [ex, nI_clamp (by omega), e126 c (by omega), e2, nI_1 (2 * c), nI_1 c, nI_clamp (by omega), nI_clamp (by omega), f124]
              by_cases c2 : dR (pr P) b c = ww - (t + 1)
              · refine br_t (by rw [c2]) ⟨vp_in_nI (by omega) (by decide), br_f (fun e => l3 c hc ⟨Or.inl e, c2⟩) ⟨vp_in_nI (by omega) (by decide), br_f (fun e => l3 c hc ⟨Or.inr e, c2⟩) ihc⟩⟩
              · have := dR_99 (pr P) b c
                exact br_f (fun e => c2 ((nI_eq (by omega) (by omega)).mp e)) ihc
          exact K2 0 (by omega)
      have := K 0 (by omega)
      rw [start]
      exact this
  have K91 : ∀ s, s ≤ min k u → ∀ I1, (∀ a, a ≠ 126 → I1 a = I a) → (J E mX12_chain (d + 3) Q 0 0 91 [some (.ref (eB E + 83)), some (.int (nI a)), some (.int (nI b)), some (.int x3), some (.int x4), some (.int (nI k)), some (.int (nI (u + ww))), some (.int (nI f)), some (.int (nI u)), some (.int (nI (riP P f u a s))), some (.int (nI s)), none, none, none] [] h I1 L) := by
    refine dn (min k u) ?_ ?_
    · intro I1 g1
      by_cases c : k ≤ u
      · refine w_X12_chain_91 hs _ _ _ _ _ _ _ _ _ _ (br_t (nI_le (by omega) (by omega)) ?_)
        exact go _ (by omega) (by omega) (by omega) I1 g1
      · refine w_X12_chain_91 hs _ _ _ _ _ _ _ _ _ _ (br_f (nI_ge (by omega) (by omega)) (br_t (nI_le (by omega) (by omega)) ?_))
        exact go _ (by omega) (by omega) (by omega) I1 g1
    · intro s hsm ih I1 g1
      have e124 : I1 124 = P := (g1 124 (by decide)).trans hI
      have hr := riP_ok hu hu2 (show a < 20 by omega) s (by omega)
      obtain ⟨l1, l2, l3⟩ := lsN_ok (riP_ex hu hu2 (show a < 20 by omega) (s := s) (by omega))
      have es : riP P f u a (s + 1) = lsN (fun q => pr P (riP P f u a s) q ∧ dR (pr P) q f = u - (s + 1)) 20 := rfl
      rw [es] at ih
      generalize lsN (fun q => pr P (riP P f u a s) q ∧ dR (pr P) q f = u - (s + 1)) 20 = k0 at l1 l2 l3 ih
      generalize riP P f u a s = p at hr l2 l3
      have hV1 : ∀ I2, (∀ a, a ≠ 126 → I2 a = I1 a) → MV I2 V := fun I2 g2 c h1 h2 => ((g2 c (by omega)).trans (g1 c (by omega))).trans (hV c h1 h2)
      have ex : nI u - nI s - 1 = nI (u - (s + 1)) := by
        rw [pk_sub (by omega), show (1 : Int32) = nI 1 from rfl, pk_sub (by omega)]
        congr 1
      refine w_X12_chain_91 hs _ _ _ _ _ _ _ _ _ _ (br_f (nI_ge (by omega) (by omega)) (br_f (nI_ge (by omega) (by omega)) ?_))
      rw [ex, N2, pk_mul, nI_1, nI_1, nI_clamp (show 2 * p < 2 ^ 31 by omega), nI_clamp (show 2 * p + 1 < 2 ^ 31 by omega), e124]
      have po : ∀ i, i < 40 → P i = (-1) ∨ ∃ q, q < cP V ∧ P i = nI q := fun i hi => by
        rcases hP i hi with q | ⟨q, q1, q2, -⟩
        · exact Or.inl q
        · exact Or.inr ⟨q, q1, q2⟩
      refine ⟨vp_in_nI (by omega) (by decide), ?_⟩
      rintro y6 rfl
      refine ⟨vp_in_nI (by omega) (by decide), ?_⟩
      rintro y8 rfl
      refine m_nearer hs w (hV1 I1 (fun _ _ => rfl)) (po _ (by omega)) (by omega) (by omega) (by rw [e124]; exact hP) (fun r I2 g2 hr2 => ⟨rfl, rfl, _, rfl, ?_⟩)
      rintro y12 rfl
      refine m_nearer hs w (hV1 I2 g2) (po _ (by omega)) (by omega) (by omega) (by rw [g2 124 (by decide), e124]; exact hP) (fun r' I3 g3 hr3 => ⟨rfl, rfl, _, rfl, ?_⟩)
      rw [g2 124 (by decide), e124] at hr3
      rw [e124] at hr2
      rintro y18 rfl
      have fin : ∀ z, z = nI k0 → (J E mX12_chain (d + 3) Q 0 0 91 [some (.ref (eB E + 83)), some (.int (nI a)), some (.int (nI b)), some (.int x3), some (.int x4), some (.int (nI k)), some (.int (nI (u + ww))), some (.int (nI f)), some (.int (nI u)), some (.int z), some (.int (nI (s + 1))), none, none, none] [] h I3 L) := by
        rintro z rfl
        exact ih I3 (fun c hc => ((g3 c hc).trans (g2 c hc)).trans (g1 c hc))
      refine fin _ ?_
      -- which of both parents
      have A : r = 0 ↔ ¬ ∃ q, q < 20 ∧ P (2 * p) = nI q ∧ dR (pr P) q f = u - (s + 1) := hr2
      have B : r' = 0 ↔ ¬ ∃ q, q < 20 ∧ P (2 * p + 1) = nI q ∧ dR (pr P) q f = u - (s + 1) := hr3
      by_cases cA : r = 0
      · rw [if_pos cA]
        have nA := A.mp cA
        have hB : P (2 * p + 1) = nI k0 := l2.1.resolve_left (fun e => nA ⟨k0, l1, e, l2.2⟩)
        rw [if_neg (fun e => B.mp e ⟨k0, l1, hB, l2.2⟩), if_pos rfl, hB]
      · rw [if_neg cA]
        obtain ⟨qa, a1, a2, a3⟩ : ∃ q, q < 20 ∧ P (2 * p) = nI q ∧ dR (pr P) q f = u - (s + 1) := Classical.byContradiction fun e => cA (A.mpr e)
        have ga : k0 ≤ qa := Nat.not_lt.mp fun hlt => l3 qa hlt ⟨Or.inl a2, a3⟩
        rw [a2, if_neg (m1_nI (by omega))]
        by_cases cB : r' = 0
        · rw [if_pos cB]
          have nB := B.mp cB
          have hA : P (2 * p) = nI k0 := l2.1.resolve_right (fun e => nB ⟨k0, l1, e, l2.2⟩)
          rw [a2] at hA; exact hA
        · rw [if_neg cB]
          obtain ⟨qb, b1, b2, b3⟩ : ∃ q, q < 20 ∧ P (2 * p + 1) = nI q ∧ dR (pr P) q f = u - (s + 1) := Classical.byContradiction fun e => cB (B.mpr e)
          have gb : k0 ≤ qb := Nat.not_lt.mp fun hlt => l3 qb hlt ⟨Or.inr b2, b3⟩
          have hk : qa = k0 ∨ qb = k0 := by
            rcases l2.1 with e | e
            · rw [a2, nI_eq (by omega) (by omega)] at e; exact Or.inl e
            · rw [b2, nI_eq (by omega) (by omega)] at e; exact Or.inr e
          rw [b2]
          by_cases cc : nI qa ≤ nI qb
          · rw [if_pos cc]
            rw [nI_leI (by omega) (by omega)] at cc
            congr 1
            omega
          · rw [if_neg cc]
            rw [nI_leI (by omega) (by omega)] at cc
            congr 1
            omega
  exact K91 0 (by omega) I (fun _ _ => rfl)
end ML
