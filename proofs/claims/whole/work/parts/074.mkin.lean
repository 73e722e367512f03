/-! the reference's parents, steps up, kin -/
section MK
variable {E : Envt} {d : Nat} {Q : Pst} {h : mS} {I V : mI} {L : mL}
theorem nI_m1 {n : Nat} (h : n < 2 ^ 31) : ((-1) = nI n) ↔ False := ⟨fun e => m1_nI h e.symm, fun f => f.elim⟩
theorem wy_of {w : Wf V} {v a : Nat} (hv : v < 5) (ha : a < 5) : (1000 ≤ tkS V v a ↔ wyA V a v = (-1)) ∧ (¬ 1000 ≤ tkS V v a → wyA V a v = tkS V v a ∧ ∃ n, n < 1000 ∧ tkS V v a = nI n) := by
  obtain ⟨n, e, hn, -, -⟩ := tkS_ok (V := V) w.R.rng hv ha
  unfold wyA
  rw [e]
  by_cases c : 1000 ≤ nI n
  · exact ⟨by rw [if_pos c]; exact ⟨fun _ => rfl, fun _ => c⟩, fun q => absurd c q⟩
  · have c' : ¬ 1000 ≤ n := fun q => c (nI_le q (by omega))
    exact ⟨by rw [if_neg c]; exact ⟨fun q => absurd q c, fun q => absurd q (m1_nI (by omega))⟩, fun _ => ⟨by rw [if_neg c], n, by omega, rfl⟩⟩
theorem hd_of {w : Wf V} {k v : Nat} (hk : k < cN V) (hv : v < 5) : hdY V k v = (if 1000 ≤ tkS V v (atN V k) then (-1) else V 105 (4 * k + 3) + tkS V v (atN V k)) ∧ (hdY V k v = (-1) ↔ 1000 ≤ tkS V v (atN V k)) := by
  have hat := (w.N.at k hk).nat (by decide)
  obtain ⟨h1, h2⟩ := wy_of (w := w) hv hat.1
  unfold hdY
  by_cases c : 1000 ≤ tkS V v (atN V k)
  · have e := h1.mp c
    rw [if_pos c]
    have e' : wyA V (atN V k) v = (-1) := e
    rw [if_pos e']
    exact ⟨rfl, fun _ => c, fun _ => rfl⟩
  · obtain ⟨e, n, hn, en⟩ := h2 c
    have e' : wyA V (atN V k) v = tkS V v (atN V k) := e
    have en' : tkS V v (atN V k) = nI n := en
    obtain ⟨j, hj, ej⟩ := w.N.in k hk
    rw [if_neg c, e', en', ej, nI_add, if_neg (m1_nI (by omega))]
    refine ⟨rfl, fun q => absurd q (m1_nI (by omega)), fun q => ?_⟩
    rw [en'] at c; exact absurd q c
theorem m_findParents (hs : SL h) (w : Wf V) (hV : MV I V) {v : Nat} {y : Int32} (hv : v < 5) (hQ : ∀ I', (∀ a, a ≠ 123 → a ≠ 124 → I' a = I a) → (∀ i, i < 40 → I' 124 i = paA V v y i) → Q none h I' L) :
    (CT E mX12_findParents (d + 1) 0 0 [.ref (eB E + 83), .int (nI v), .int y] h I L Q) := by
  refine w_X12_findParents hs _ _ ?_
  have n60 := w.N.n60
  have K28 : ∀ I0 : mI, (∀ a, a ≠ 123 → a ≠ 124 → I0 a = I a) → (∀ i, i < 5 → I0 123 i = tkS V v i) → ∀ k, k ≤ cN V → ∀ f, (∀ i, i < 40 → f i = paF V v y k i) → (J E mX12_findParents (d + 1) Q 0 0 28 [some (.ref (eB E + 83)), some (.int (nI v)), some (.int y), some (.int (nI k)), none, none] [] h (sA I0 124 f) L) := by
    intro I0 hI ht
    have e104 : I0 104 = V 104 := (hI 104 (by decide) (by decide)).trans (hV 104 (by decide) (by decide))
    have e105 : I0 105 = V 105 := (hI 105 (by decide) (by decide)).trans (hV 105 (by decide) (by decide))
    have e97 : I0 97 = V 97 := (hI 97 (by decide) (by decide)).trans (hV 97 (by decide) (by decide))
    refine dn (cN V) ?_ ?_
    · intro f hf
      refine w_X12_findParents_28 hs _ _ _ (br_t ?_ (hQ _ (fun a h1 h2 => by rw [sA_ne h2]; exact hI a h1 h2) (fun i hi => by rw [sA_at]; exact hf i hi)))
      rw [sA_ne (by decide), e104, w.N.n]
      exact nI_le (Nat.le_refl _) (by omega)
    · intro k hk ih f hf
      obtain ⟨c, p, hc, hp, ec, ep, -, ei, e2, ek, eb⟩ := paI_ok w hk
      have n20 := w.P.n20
      have hat := (w.N.at k hk).nat (by decide)
      obtain ⟨g1, g2⟩ := hd_of (w := w) hk hv
      refine w_X12_findParents_28 hs _ _ _ (br_f (by rw [sA_ne (by decide), e104, w.N.n]; exact nI_ge hk (by omega)) ?_)
      have q2 : 4 * nI k + 2 = nI (4 * k + 2) := by rw [N4, N2, pk_mul, nI_add]
      have q3 : 4 * nI k + 3 = nI (4 * k + 3) := by rw [N4, N3, pk_mul, nI_add]
      have q1 : 4 * nI k + 1 = nI (4 * k + 1) := by rw [N4, pk_mul, nI_1]
      have q0 : 4 * nI k = nI (4 * k) := by rw [N4, pk_mul]
      simp only [sA_ne (show (105 : Nat) ≠ 124 by decide), sA_ne (show (123 : Nat) ≠ 124 by decide), sA_ne (show (97 : Nat) ≠ 124 by decide)]
      rw [q2, q3, q1, q0, e105, e97]
      rw [nI_clamp (show 4 * k + 2 < 2 ^ 31 by omega), nI_clamp (show 4 * k + 3 < 2 ^ 31 by omega), nI_clamp (show 4 * k + 1 < 2 ^ 31 by omega), nI_clamp (show 4 * k < 2 ^ 31 by omega)]
      refine ⟨vp_in_nI (by omega) (by decide), by rw [hat.2]; exact vp_in_nI hat.1 (by decide), ?_⟩
      rintro y4 rfl
      rw [ht _ hat.1]
      have hat' : (V 105 (4 * k + 2)).toNatClampNeg = atN V k := rfl
      rw [hat']
      by_cases c1 : 1000 ≤ tkS V v (atN V k)
      · refine br_t c1 ?_
        rw [nI_1]
        refine ih f fun i hi => ?_
        rw [paF, if_neg (fun q => q.1 (g2.mpr c1))]
        exact hf i hi
      · refine br_f c1 ⟨vp_in_nI (by omega) (by decide), ?_⟩
        rw [if_neg c1] at g1
        rw [← g1]
        by_cases c2 : y < hdY V k v
        · refine br_t c2 ?_
          rw [nI_1]
          refine ih f fun i hi => ?_
          rw [paF, if_neg (fun q => q.2 c2)]
          exact hf i hi
        · refine br_f c2 ⟨vp_in_nI (by omega) (by decide), vp_in_nI (by omega) (by decide), ?_, ?_, ?_⟩
          · rw [ep]; exact vp_in_nI (by omega) (by decide)
          · rw [ep, ec, nI_clamp (by omega), ek, N2, pk_mul, nI_add]; exact vp_in_nI (by omega) (by decide)
          · rw [nI_1, uI_sA]
            refine ih _ fun i hi => ?_
            rw [paF, if_pos ⟨fun q => c1 (g2.mp q), c2⟩]
            have e3 : (2 * V 105 (4 * k) + V 97 (V 105 (4 * k + 1)).toNatClampNeg).toNatClampNeg = paI V k := by
              rw [ei, ep, ec, nI_clamp (show p < 2 ^ 31 by omega), ek, N2, pk_mul, nI_add, nI_clamp (by omega), nI_clamp (by omega)]
            rw [e3]
            by_cases e : i = paI V k
            · rw [e, upd_same', upd_same']
            · rw [upd_ne' e, upd_ne' e]; exact hf i hi
  have K2 : ∀ k, k ≤ 40 → ∀ f, (∀ i, i < k → f i = (-1)) → (J E mX12_findParents (d + 1) Q 0 0 2 [some (.ref (eB E + 83)), some (.int (nI v)), some (.int y), some (.int (nI k)), none, none] [] h (sA I 124 f) L) := by
    refine dn 40 ?_ ?_
    · intro f hf
      refine w_X12_findParents_2 hs _ _ _ (br_t (by decide) ?_)
      refine m_findTakes hs hv (fun t ht => ⟨rfl, rfl, rfl, ?_⟩)
      have e : tkS (sA I 124 f) v = tkS V v := by
        unfold tkS
        rw [sA_ne (by decide), hV 89 (by decide) (by decide)]
      rw [e] at ht
      have := K28 (sA (sA I 124 f) 123 t) (fun a h1 h2 => by rw [sA_ne h1, sA_ne h2]) (fun i hi => by rw [sA_at]; exact ht i hi) 0 (by omega) f (fun i hi => hf i hi)
      have e2 : sA (sA (sA I 124 f) 123 t) 124 f = sA (sA I 124 f) 123 t := by
        have := sA_id (I := sA (sA I 124 f) 123 t) (a := 124)
        rwa [sA_ne (by decide), sA_at] at this
      rw [e2] at this
      exact this
    · intro k hk ih f hf
      refine w_X12_findParents_2 hs _ _ _ (br_f (nI_ge hk (by decide)) ⟨vp_in_nI (by omega) (by decide), ?_⟩)
      rw [nI_1, nI_clamp (by omega), uI_sA]
      refine ih _ fun i hi => ?_
      by_cases e : i = k
      · rw [e, upd_same']
      · rw [upd_ne' e]; exact hf i (by omega)
  have := K2 0 (by omega) (I 124) (fun i hi => absurd hi (by omega))
  rw [sA_id] at this
  exact this
theorem m_findUp (hs : SL h) (w : Wf V) (hV : MV I V) {a2 p : Nat} (ha2 : a2 = 125 ∨ a2 = 126) (hp : p < cP V) (hP : paOK V (I 124)) (hQ : ∀ f : Nat → Int32, (∀ q, q < 20 → f q = nI (dR (pr (I 124)) p q)) → Q none h (sA I a2 f) L) :
    (CT E mX12_findUp d 0 0 [.ref (eB E + 83), .int (nI p), .ref (eB E + a2)] h I L Q) := by
  have n20 := w.P.n20
  have hl2 : a2 < h.2.2 := by rcases ha2 with rfl | rfl; exact lt125 hs; exact lt126 hs
  have hk2 : h.1 a2 = (14, 20) := by rcases ha2 with rfl | rfl; exact kk125 hs; exact kk126 hs
  have e95 : ∀ f, (sA I a2 f) 95 0 = nI (cP V) := fun f => by rw [sA_ne (by omega), hV 95 (by decide) (by decide)]; exact w.P.n
  have e124 : ∀ f, (sA I a2 f) 124 = I 124 := fun f => sA_ne (by omega)
  have hR := pr_R n20 hP
  refine w_X12_findUp hs _ hl2 hk2 ?_
  have K30 : ∀ m (U : Nat → Nat) (f : Nat → Int32), fb_sm U 20 < m → (∀ q, q < 20 → f q = nI (U q)) → U p = 0 → (∀ q, q < 20 → U q = 99 ∨ (U q < 20 ∧ rc (pr (I 124)) (U q) p q)) → (J E mX12_findUp d Q 0 0 30 [some (.ref (eB E + 83)), some (.int (nI p)), some (.ref (eB E + a2)), some (.int 1), none, none, none] [] h (sA I a2 f) L) := by
    intro m
    induction m with
    | zero => intro U f hm; exact absurd hm (by omega)
    | succ m ih =>
      intro U0 f0 hm0 hf0 h00 hsd0
      refine w_X12_findUp_30 hs hl2 hk2 _ _ (br_f (by decide) ?_)
      have K39 : ∀ q, q ≤ cP V → ∀ (mo : Int32) (U : Nat → Nat) (f : Nat → Int32), fb_sm U 20 < m + 1 → (∀ q, q < 20 → f q = nI (U q)) → U p = 0 → (∀ q, q < 20 → U q = 99 ∨ (U q < 20 ∧ rc (pr (I 124)) (U q) p q)) →
          ((mo = 0 ∧ ∀ a b, a < q → b < 20 → U a < 99 → pr (I 124) a b → U b ≤ U a + 1) ∨ (mo = 1 ∧ fb_sm U 20 < m)) → (J E mX12_findUp d Q 0 0 39 [some (.ref (eB E + 83)), some (.int (nI p)), some (.ref (eB E + a2)), some (.int mo), some (.int (nI q)), none, none] [] h (sA I a2 f) L) := by
        refine dn (cP V) ?_ ?_
        · intro mo U f hsm hf h0 hsd hmo
          refine w_X12_findUp_39 hs hl2 hk2 _ _ _ (br_t (by rw [e95]; exact nI_le (Nat.le_refl _) (by omega)) ?_)
          rcases hmo with ⟨rfl, hfix⟩ | ⟨rfl, hlt⟩
          · refine w_X12_findUp_30 hs hl2 hk2 _ _ (br_t rfl (hQ f fun q hq => ?_))
            rw [hf q hq, dR_fix hR (by omega) h0 hsd (fun a b ha hb hU hr => hfix a b (pr_lt n20 hP ha hb hr).1 hb hU hr) q hq]
          · exact ih U f hlt hf h0 hsd
        · intro q hq ihq mo U f hsm hf h0 hsd hmo
          refine w_X12_findUp_39 hs hl2 hk2 _ _ _ (br_f (by rw [e95]; exact nI_ge hq (by omega)) ?_)
          have K53 : ∀ k, k ≤ 2 → ∀ (mo : Int32) (U : Nat → Nat) (f : Nat → Int32), fb_sm U 20 < m + 1 → (∀ q, q < 20 → f q = nI (U q)) → U p = 0 → (∀ q, q < 20 → U q = 99 ∨ (U q < 20 ∧ rc (pr (I 124)) (U q) p q)) →
              ((mo = 0 ∧ (∀ a b, a < q → b < 20 → U a < 99 → pr (I 124) a b → U b ≤ U a + 1) ∧ ∀ k' b, k' < k → b < 20 → U q < 99 → I 124 (2 * q + k') = nI b → U b ≤ U q + 1) ∨ (mo = 1 ∧ fb_sm U 20 < m)) → (J E mX12_findUp d Q 0 0 53 [some (.ref (eB E + 83)), some (.int (nI p)), some (.ref (eB E + a2)), some (.int mo), some (.int (nI q)), some (.int (nI k)), none] [] h (sA I a2 f) L) := by
            have leave : ∀ (mo : Int32) (U : Nat → Nat) (f : Nat → Int32), fb_sm U 20 < m + 1 → (∀ q, q < 20 → f q = nI (U q)) → U p = 0 → (∀ q, q < 20 → U q = 99 ∨ (U q < 20 ∧ rc (pr (I 124)) (U q) p q)) →
              ((mo = 0 ∧ (∀ a b, a < q → b < 20 → U a < 99 → pr (I 124) a b → U b ≤ U a + 1) ∧ ∀ k' b, k' < 2 → b < 20 → U q < 99 → I 124 (2 * q + k') = nI b → U b ≤ U q + 1) ∨ (mo = 1 ∧ fb_sm U 20 < m)) → (J E mX12_findUp d Q 0 0 39 [some (.ref (eB E + 83)), some (.int (nI p)), some (.ref (eB E + a2)), some (.int mo), some (.int (nI q + 1)), none, none] [] h (sA I a2 f) L) := by
              intro mo U f hsm hf h0 hsd hmo
              rw [nI_1]
              refine ihq mo U f hsm hf h0 hsd ?_
              rcases hmo with ⟨e, g1, g2⟩ | g
              · left
                refine ⟨e, fun a b ha hb hU hr => ?_⟩
                by_cases ea : a = q
                · subst ea
                  rcases hr with hr | hr
                  · exact g2 0 b (by omega) hb hU hr
                  · exact g2 1 b (by omega) hb hU hr
                · exact g1 a b (by omega) hb hU hr
              · exact Or.inr g
            refine dn 2 ?_ ?_
            · intro mo U f hsm hf h0 hsd hmo
              refine w_X12_findUp_53 hs hl2 hk2 _ _ _ _ (br_t (by decide) ?_)
              exact leave mo U f hsm hf h0 hsd hmo
            · intro k hk ihk mo U f hsm hf h0 hsd hmo
              have sq := hsd q (by omega)
              refine w_X12_findUp_53 hs hl2 hk2 _ _ _ _ (br_f (nI_ge hk (by decide)) ?_)
              have ei : 2 * nI q + nI k = nI (2 * q + k) := by rw [N2, pk_mul, nI_add]
              rw [ei, nI_clamp (show q < 2 ^ 31 by omega), nI_clamp (show 2 * q + k < 2 ^ 31 by omega), e124, sA_at, hf q (by omega)]
              refine ⟨vp_in_nI (by omega) (by decide), ?_⟩
              by_cases c1 : U q = 99
              · refine br_t (by rw [c1]; decide) ?_
                refine leave mo U f hsm hf h0 hsd ?_
                rcases hmo with ⟨e, g1, g2⟩ | g
                · exact Or.inl ⟨e, g1, fun k' b _ _ hU => absurd hU (by omega)⟩
                · exact Or.inr g
              · refine br_f (nI_ge (show U q < 99 by omega) (by decide)) ⟨vp_in_nI (by omega) (by decide), ?_⟩
                rintro y5 rfl
                rcases hP (2 * q + k) (by omega) with c2 | ⟨b, hb, eb, -, -⟩
                · refine br_t c2 ?_
                  rw [nI_1]
                  refine ihk mo U f hsm hf h0 hsd ?_
                  rcases hmo with ⟨e, g1, g2⟩ | g
                  · refine Or.inl ⟨e, g1, fun k' b hk' hb hU hr => ?_⟩
                    by_cases ek : k' = k
                    · subst ek; rw [c2] at hr; exact absurd hr.symm (m1_nI (by omega))
                    · exact g2 k' b (by omega) hb hU hr
                  · exact Or.inr g
                · rw [eb]
                  refine br_f (m1_nI (by omega)) ⟨vp_in_nI (by omega) (by decide), ?_⟩
                  rw [nI_clamp (show b < 2 ^ 31 by omega), hf b (by omega), nI_1 (U q), nI_1 k, uI_sA]
                  have sb := hsd b (by omega)
                  by_cases c3 : U b ≤ U q + 1
                  · refine br_t (nI_le c3 (by omega)) ?_
                    refine ihk mo U f hsm hf h0 hsd ?_
                    rcases hmo with ⟨e, g1, g2⟩ | g
                    · refine Or.inl ⟨e, g1, fun k' b' hk' hb' hU hr => ?_⟩
                      by_cases ek : k' = k
                      · subst ek
                        rw [eb, nI_eq (by omega) (by omega)] at hr
                        subst hr
                        exact c3
                      · exact g2 k' b' (by omega) hb' hU hr
                    · exact Or.inr g
                  · refine br_f (nI_ge (by omega) (by omega)) ?_
                    have hrq := sq.resolve_left c1
                    have hpr : pr (I 124) q b := by
                      have : k = 0 ∨ k = 1 := by omega
                      rcases this with rfl | rfl
                      · exact Or.inl eb
                      · exact Or.inr eb
                    have hrb : rc (pr (I 124)) (U q + 1) p b := rc_tail.mpr ⟨q, Or.inr (by omega), hrq.2, hpr, by omega⟩
                    have hlen := (rc_len (g := fun c => (V 99 c).toInt) hR (by omega) hrb).1
                    have hpb : p ≠ b := fun e => by subst e; omega
                    have hsum := fb_sm_upd U (U q + 1) (i := b) (n := 20) (by omega)
                    refine ihk 1 (fun x => if x = b then U q + 1 else U x) _ (by omega) (fun x hx => ?_) ?_ (fun x hx => ?_) (Or.inr ⟨rfl, by omega⟩)
                    · show upd f b (nI (U q + 1)) x = nI (if x = b then U q + 1 else U x)
                      by_cases e : x = b
                      · rw [e, upd_same', if_pos rfl]
                      · rw [upd_ne' e, if_neg e]; exact hf x hx
                    · show (if p = b then _ else U p) = 0
                      rw [if_neg hpb]; exact h0
                    · show (if x = b then U q + 1 else U x) = 99 ∨ ((if x = b then U q + 1 else U x) < 20 ∧ rc (pr (I 124)) (if x = b then U q + 1 else U x) p x)
                      by_cases e : x = b
                      · rw [if_pos e, e]; exact Or.inr ⟨hlen, hrb⟩
                      · rw [if_neg e]; exact hsd x hx
          exact K53 0 (by omega) mo U f hsm hf h0 hsd (by
            rcases hmo with ⟨e, g⟩ | g
            · exact Or.inl ⟨e, g, fun k' b hk' => absurd hk' (by omega)⟩
            · exact Or.inr g)
      exact K39 0 (by omega) 0 U0 f0 hm0 hf0 h00 hsd0 (Or.inl ⟨rfl, fun a b ha => absurd ha (by omega)⟩)
  have K2 : ∀ k, k ≤ 20 → ∀ f : Nat → Int32, (∀ i, i < k → f i = nI (if i = p then 0 else 99)) → (J E mX12_findUp d Q 0 0 2 [some (.ref (eB E + 83)), some (.int (nI p)), some (.ref (eB E + a2)), some (.int (nI k)), none, none, none] [] h (sA I a2 f) L) := by
    refine dn 20 ?_ ?_
    · intro f hf
      refine w_X12_findUp_2 hs hl2 hk2 _ _ (br_t (by decide) ?_)
      refine K30 _ (fun i => if i = p then 0 else 99) f (Nat.lt_succ_self _) hf (by simp) (fun q hq => ?_)
      by_cases e : q = p
      · right; subst e; exact ⟨by simp, by simp [rc]⟩
      · left; simp [e]
    · intro k hk ih f hf
      refine w_X12_findUp_2 hs hl2 hk2 _ _ (br_f (nI_ge hk (by decide)) ⟨vp_in_nI (by omega) (by decide), ?_⟩)
      simp (disch := omega) only [nI_1, nI_clamp, uI_sA, nI_eq]
      refine ih _ fun i hi => ?_
      by_cases e : i = k
      · rw [e, upd_same']; split <;> rfl
      · rw [upd_ne' e]; exact hf i (by omega)
  have := K2 0 (by omega) (I a2) (fun i hi => absurd hi (by omega))
  rw [sA_id] at this
  exact this
def KFr (I I' : mI) : Prop := (∀ a, a ≠ 83 → (a < 123 ∨ 126 < a) → I' a = I a) ∧ ∀ j, j ≠ 44 → I' 83 j = I 83 j
theorem KFr.fr {I I' : mI} (h : KFr I I') : FrM I I' := fun a ha => h.1 a (by omega) (by omega)
theorem m_kinOf (hs : SL h) (w : Wf V) (hV : MV I V) {a b v : Nat} {y : Int32} (ha : a < cP V) (hb : b < cP V) (hv : v < 5)
    (hQ : ∀ I', KFr I I' → (∀ i, i < 40 → I' 124 i = paA V v y i) → (∀ q, q < 20 → I' 125 q = nI (UA V v y a q)) → (∀ q, q < 20 → I' 126 q = nI (UA V v y b q)) → I' 83 44 = oI (foA V v y a b) → Q (some (.int (kiA V v y a b))) h I' L) :
    (CT E mX12_kinOf (d + 2) 0 0 [.ref (eB E + 83), .int (nI a), .int (nI b), .int (nI v), .int y] h I L Q) := by
  have n20 := w.P.n20
  refine w_X12_kinOf hs _ _ _ _ ?_
  refine m_findParents hs w hV hv (fun I1 f1 p1 => ⟨rfl, rfl, rfl, ?_⟩)
  have ok1 : paOK V (I1 124) := fun i hi => by rw [p1 i hi]; exact paA_ok w v y i hi
  have hV1 : MV I1 V := fun q h1 h2 => (f1 q (by omega) (by omega)).trans (hV q h1 h2)
  refine m_findUp hs w hV1 (Or.inl rfl) ha ok1 (fun u hu => ⟨rfl, rfl, rfl, ?_⟩)
  have hV2 : MV (sA I1 125 u) V := fun q h1 h2 => (sA_ne (by omega)).trans (hV1 q h1 h2)
  refine m_findUp hs w hV2 (Or.inr rfl) hb (by rw [sA_ne (by decide)]; exact ok1) (fun t ht => ⟨rfl, rfl, rfl, ?_⟩)
  rw [sA_ne (by decide)] at ht
  have hu' : ∀ q, q < 20 → u q = nI (UA V v y a q) := fun q hq => by rw [hu q hq]; unfold UA; rw [dR_cg p1 (by omega)]
  have ht' : ∀ q, q < 20 → t q = nI (UA V v y b q) := fun q hq => by rw [ht q hq]; unfold UA; rw [dR_cg p1 (by omega)]
  have lu : ∀ q, UA V v y a q < 20 ∨ UA V v y a q = 99 := fun q => dR_99 _ _ _
  have lt : ∀ q, UA V v y b q < 20 ∨ UA V v y b q = 99 := fun q => dR_99 _ _ _
  generalize hJ : sA (sA I1 125 u) 126 t = I2
  have e83 : I2 83 = I 83 := by rw [← hJ, sA_ne (by decide), sA_ne (by decide), f1 83 (by decide) (by decide)]
  have eo : ∀ a, a ≠ 83 → (a < 123 ∨ 126 < a) → I2 a = I a := fun a h1 h2 => by rw [← hJ, sA_ne (by omega), sA_ne (by omega), f1 a (by omega) (by omega)]
  have e124 : ∀ i, i < 40 → I2 124 i = paA V v y i := fun i hi => by rw [← hJ, sA_ne (by decide), sA_ne (by decide)]; exact p1 i hi
  have e125 : I2 125 = u := by rw [← hJ, sA_ne (by decide), sA_at]
  have e126 : I2 126 = t := by rw [← hJ, sA_at]
  have e95 : I2 95 0 = nI (cP V) := by rw [eo 95 (by decide) (by decide), hV 95 (by decide) (by decide)]; exact w.P.n
  have K : ∀ k, k ≤ cP V → (J E mX12_kinOf (d + 2) Q 0 0 37 [some (.ref (eB E + 83)), some (.int (nI a)), some (.int (nI b)), some (.int (nI v)), some (.int y), some (.int (match foF (UA V v y a) (UA V v y b) k with | none => 99 | some f => nI (UA V v y a f + UA V v y b f))), some (.int (nI k)), none, none] [] h (uI I2 83 44 (oI (foF (UA V v y a) (UA V v y b) k))) L) := by
    refine dn (cP V) ?_ ?_
    · refine w_X12_kinOf_37 hs _ _ _ _ _ _ (br_t (by rw [uI_ne (by decide), e95]; exact nI_le (Nat.le_refl _) (by omega)) ?_)
      refine hQ _ ⟨fun a h1 h2 => by rw [uI_ne h1]; exact eo a h1 h2, fun j hj => ?_⟩ (fun i hi => by rw [uI_ne (by decide)]; exact e124 i hi) (fun q hq => by rw [uI_ne (by decide), e125]; exact hu' q hq) (fun q hq => by rw [uI_ne (by decide), e126]; exact ht' q hq) ?_
      · rw [uI_s, sA_at, upd_ne' hj, e83]
      · rw [uI_s, sA_at, upd_same']; rfl
    · intro k hk ih
      refine w_X12_kinOf_37 hs _ _ _ _ _ _ (br_f (by rw [uI_ne (by decide), e95]; exact nI_ge hk (by omega)) ?_)
      rw [nI_clamp (show k < 2 ^ 31 by omega)]
      refine ⟨vp_in_nI (by omega) (by decide), ?_⟩
      rw [uI_ne (show (125 : Nat) ≠ 83 by decide), uI_ne (show (126 : Nat) ≠ 83 by decide), e125, e126, hu' k (by omega), ht' k (by omega), nI_add]
      rintro y3 rfl
      have e44 : uI I2 83 44 (oI (foF (UA V v y a) (UA V v y b) k)) 83 44 = oI (foF (UA V v y a) (UA V v y b) k) := by rw [uI_s, sA_at, upd_same']
      rw [e44]
      have wr : ∀ x, uI (uI I2 83 44 (oI (foF (UA V v y a) (UA V v y b) k))) 83 44 x = uI I2 83 44 x := fun x => by rw [uI_s (I := I2), uI_sA, uI_s (I := I2), fa_upd_twice]
      rw [wr, nI_1]
      have lk := lu k
      have lk' := lt k
      have same : ∀ P : Prop, P → True := fun _ _ => trivial
      cases hf : foF (UA V v y a) (UA V v y b) k with
      | none =>
        refine ⟨fun _ _ q => absurd rfl q, ?_⟩
        by_cases c1 : UA V v y a k = 99
        · rw [foF_n (Or.inl (by omega)), hf] at ih
          exact br_t (by rw [c1]; decide) ih
        · refine br_f (nI_ge (show UA V v y a k < 99 by omega) (by decide)) ?_
          by_cases c2 : UA V v y b k = 99
          · rw [foF_n (Or.inr (Or.inl (by omega))), hf] at ih
            exact br_t (by rw [c2]; decide) ih
          · refine br_f (nI_ge (show UA V v y b k < 99 by omega) (by decide)) (br_t (Or.inl (nI_lt (show UA V v y a k + UA V v y b k < 99 by omega) (by decide))) ?_)
            rw [foF_y (by omega) (by omega) (fun f q => by rw [hf] at q; cases q)] at ih
            exact ih
      | some f =>
        have hfl := foF_lt hf
        have luf := lu f
        have ltf := lt f
        have ev : (oI (some f)) = nI f := rfl
        rw [ev, nI_clamp (show f < 2 ^ 31 by omega), hu' f (by omega)]
        refine ⟨fun _ _ _ => vp_in_nI (by omega) (by decide), ?_⟩
        by_cases c1 : UA V v y a k = 99
        · rw [foF_n (Or.inl (by omega)), hf] at ih
          exact br_t (by rw [c1]; decide) ih
        · refine br_f (nI_ge (show UA V v y a k < 99 by omega) (by decide)) ?_
          by_cases c2 : UA V v y b k = 99
          · rw [foF_n (Or.inr (Or.inl (by omega))), hf] at ih
            exact br_t (by rw [c2]; decide) ih
          · refine br_f (nI_ge (show UA V v y b k < 99 by omega) (by decide)) ?_
            by_cases c3 : UA V v y a k + UA V v y b k < UA V v y a f + UA V v y b f ∨ (UA V v y a k + UA V v y b k = UA V v y a f + UA V v y b f ∧ UA V v y a k < UA V v y a f)
            · refine br_t ?_ ?_
              · rcases c3 with c | ⟨c, c'⟩
                · exact Or.inl (nI_lt c (by omega))
                · exact Or.inr ⟨by rw [c], m1_nI (by omega), nI_ge c' (by omega)⟩
              · rw [foF_y (by omega) (by omega) (fun f' q => by rw [hf] at q; cases q; exact c3)] at ih
                exact ih
            · refine br_f ?_ ?_
              · rintro (q | ⟨q1, -, q2⟩)
                · rw [nI_ltI (by omega) (by omega)] at q; exact c3 (Or.inl q)
                · have q1 : nI (UA V v y a k + UA V v y b k) = nI (UA V v y a f + UA V v y b f) := q1
                  rw [nI_eq (by omega) (by omega)] at q1
                  rw [nI_leI (by omega) (by omega)] at q2
                  exact c3 (Or.inr ⟨q1, by omega⟩)
              · rw [foF_n (Or.inr (Or.inr ⟨f, hf, c3⟩)), hf] at ih
                exact ih
  have := K 0 (by omega)
  exact this
end MK
