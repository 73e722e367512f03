/-! the reference finds how long news take -/
theorem rlx_cg {r : Nat → Int32} {a b : Nat} {t t0 : Nat → Int32} (ha : a < 5) (hb : b < 5) (h : ∀ i, i < 5 → t i = t0 i) : ∀ i, i < 5 → rlx r a b t i = rlx r a b t0 i := by
  intro i hi
  unfold rlx upd
  rw [h a ha, h b hb]
  split
  · rfl
  · exact h i hi
theorem m_findTakes {E : Envt} {d : Nat} {Q : Pst} {h : mS} {I : mI} {L : mL} (hs : SL h) {v : Nat} (hv : v < 5) (hQ : ∀ t, (∀ i, i < 5 → t i = tkS I v i) → Q none h (sA I 123 t) L) :
    (CT E mX12_findTakes d 0 0 [.ref (eB E + 83), .int (nI v)] h I L Q) := by
  refine w_X12_findTakes hs (nI v) ?_
  have K48 : ∀ (rd a : Nat) (t0 : Nat → Int32), a < 5 → (∀ t, (∀ i, i < 5 → t i = tkB (I 89) a 5 t0 i) → (J E mX12_findTakes d Q 0 0 40 [some (.ref (eB E + 83)), some (.int (nI v)), some (.int (nI rd)), some (.int (nI (a + 1))), none, none, none] [] h (sA I 123 t) L)) →
      ∀ b, b ≤ 5 → ∀ t, (∀ i, i < 5 → t i = tkB (I 89) a b t0 i) → (J E mX12_findTakes d Q 0 0 48 [some (.ref (eB E + 83)), some (.int (nI v)), some (.int (nI rd)), some (.int (nI a)), some (.int (nI b)), none, none] [] h (sA I 123 t) L) := by
    intro rd a t0 ha hK
    refine dn 5 ?_ ?_
    · intro t ht
      refine w_X12_findTakes_48 hs _ _ _ _ (br_t (by decide) ?_)
      rw [nI_1]; exact hK t ht
    · intro b hb ih t ht
      refine w_X12_findTakes_48 hs _ _ _ _ (br_f (nI_ge hb (by decide)) ?_)
      have e1 : 5 * nI a + nI b = nI (5 * a + b) := by rw [nI_lit, pk_mul, nI_add]
      rw [e1, nI_clamp (by omega), nI_clamp (by omega), nI_clamp (by omega), sA_at, sA_ne (by decide)]
      refine ⟨vp_in_nI (by omega) (by decide), ?_⟩
      rintro y3 rfl
      refine ⟨fun _ _ => vp_in_nI (by omega) (by decide), fun _ _ => vp_in_nI (by omega) (by decide), fun _ => vp_in_nI (by omega) (by decide), fun _ => vp_in_nI (by omega) (by decide), ?_⟩
      rintro y16 rfl
      refine ⟨vp_in_nI (by omega) (by decide), ?_⟩
      rw [nI_1, uI_sA]
      refine ih _ fun i hi => ?_
      simp (disch := omega) only [nI_eq]
      exact rlx_cg ha (by omega) ht i hi
  have K40 : ∀ (rd : Nat) (t0 : Nat → Int32), (∀ t, (∀ i, i < 5 → t i = tkA (I 89) 5 t0 i) → (J E mX12_findTakes d Q 0 0 33 [some (.ref (eB E + 83)), some (.int (nI v)), some (.int (nI (rd + 1))), none, none, none, none] [] h (sA I 123 t) L)) →
      ∀ a, a ≤ 5 → ∀ t, (∀ i, i < 5 → t i = tkA (I 89) a t0 i) → (J E mX12_findTakes d Q 0 0 40 [some (.ref (eB E + 83)), some (.int (nI v)), some (.int (nI rd)), some (.int (nI a)), none, none, none] [] h (sA I 123 t) L) := by
    intro rd t0 hK
    refine dn 5 ?_ ?_
    · intro t ht
      refine w_X12_findTakes_40 hs _ _ _ (br_t (by decide) ?_)
      rw [nI_1]; exact hK t ht
    · intro a ha ih t ht
      refine w_X12_findTakes_40 hs _ _ _ (br_f (nI_ge ha (by decide)) ?_)
      exact K48 rd a (tkA (I 89) a t0) ha ih 0 (by omega) t ht
  have K33 : ∀ k, k ≤ 5 → ∀ t, (∀ i, i < 5 → t i = tkR (I 89) k (tk0 v) i) → (J E mX12_findTakes d Q 0 0 33 [some (.ref (eB E + 83)), some (.int (nI v)), some (.int (nI k)), none, none, none, none] [] h (sA I 123 t) L) := by
    refine dn 5 ?_ ?_
    · intro t ht
      refine w_X12_findTakes_33 hs _ _ (br_t (by decide) ?_)
      exact hQ t ht
    · intro a ha ih t ht
      refine w_X12_findTakes_33 hs _ _ (br_f (nI_ge ha (by decide)) ?_)
      exact K40 a (tkR (I 89) a (tk0 v)) ih 0 (by omega) t ht
  have K2 : ∀ k, k ≤ 5 → ∀ t, (∀ i, i < k → t i = tk0 v i) → (J E mX12_findTakes d Q 0 0 2 [some (.ref (eB E + 83)), some (.int (nI v)), some (.int (nI k)), none, none, none, none] [] h (sA I 123 t) L) := by
    refine dn 5 ?_ ?_
    · intro t ht
      refine w_X12_findTakes_2 hs _ _ (br_t (by decide) ?_)
      exact K33 0 (by omega) t ht
    · intro a ha ih t ht
      refine w_X12_findTakes_2 hs _ _ (br_f (nI_ge ha (by decide)) ⟨vp_in_nI (by omega) (by decide), ?_⟩)
      simp (disch := omega) only [nI_1, nI_clamp, uI_sA, nI_eq]
      refine ih _ fun i hi => ?_
      by_cases hia : i = a
      · subst hia; rw [upd_same']; rfl
      · rw [upd_ne' hia]; exact ht i (by omega)
  have := K2 0 (by omega) (I 123) (fun i hi => absurd hi (by omega))
  rw [sA_id] at this
  exact this
