/-! the reference's ring -/
section RM6
variable {E : Envt} {d : Nat} {Q : Pst} {h : mS} {I V : mI} {L : mL}
def TBM (I : mI) (s : CqT) : Prop := ∀ x, x < 64 → I 143 x = s.1 x ∧ (¬ s.1 x = (-1) → I 141 x = s.2.1 x ∧ I 142 x = s.2.2 x)
theorem m_findCouples (hs : SL h) (w : Wf V) (hV : MV I V) (hQ : ∀ I', (∀ a, a ≠ 83 → (a < 123 ∨ 126 < a) → (a < 133 ∨ 137 < a) → (a < 141 ∨ 143 < a) → I' a = I a) → TBM I' (cqA V) → Q none h I' L) : (CT E mX12_findCouples (d + 6) 0 0 [.ref (eB E + 83)] h I L Q) := by
  have n20 := w.P.n20
  have p0 := pk8 V 0
  have p1 := pk8 V 1
  refine w_X12_findCouples hs ?_
  refine m_findFree hs w hV (fun I0 f0 g0 => qv_i ?_)
  have hV0 : MV I0 V := fun a h1 h2 => by rw [f0 a (by omega) (by omega) (by omega)]; exact hV a h1 h2
  have gm : ∀ I1 : mI, (∀ a, a < 141 ∨ 143 < a → I1 a = I0 a) → GM I1 V := fun I1 f1 => g0.cg (fun a h1 h2 => f1 a (by omega))
  have K27 : ∀ i, i ≤ pkC V 0 → ∀ I1, (∀ a, a < 141 ∨ 143 < a → I1 a = I0 a) → TBM I1 (cqI V i) → (J E mX12_findCouples (d + 6) Q 0 0 27 [some (.ref (eB E + 83)), some (.int (nI i)), none, none] [] h I1 L) := by
    refine dn (pkC V 0) ?_ ?_
    · intro I1 f1 t1
      exact w_X12_findCouples_27 hs _ (br_t (by rw [(gm I1 f1).1]; exact nI_le (Nat.le_refl _) (by omega)) (hQ I1 (fun a h1 h2 h3 h4 => by rw [f1 a h4]; exact f0 a h1 h2 h3) t1))
    · intro i hi ih I1 f1 t1
      refine w_X12_findCouples_27 hs _ (br_f (by rw [(gm I1 f1).1]; exact nI_ge hi (by omega)) ?_)
      have K39 : ∀ j, j ≤ pkC V 1 → ∀ I1, (∀ a, a < 141 ∨ 143 < a → I1 a = I0 a) → TBM I1 (cqJ V i (cqI V i) j) → (J E mX12_findCouples (d + 6) Q 0 0 39 [some (.ref (eB E + 83)), some (.int (nI i)), some (.int (nI j)), none] [] h I1 L) := by
        refine dn (pkC V 1) ?_ ?_
        · intro I1 f1 t1
          refine w_X12_findCouples_39 hs _ _ (br_t (by rw [(gm I1 f1).2.1]; exact nI_le (Nat.le_refl _) (by omega)) ?_)
          rw [nI_1]
          exact ih I1 f1 t1
        · intro j hj ihj I1 f1 t1
          have g1 := gm I1 f1
          obtain ⟨b1, -, -⟩ := pk_ok hi
          obtain ⟨gg1, -, -⟩ := pk_ok hj
          obtain ⟨hb8, ehb⟩ := hN_ok w (p := pkI V 0 i) (by omega)
          obtain ⟨hg8, ehg⟩ := hN_ok w (p := pkI V 1 j) (by omega)
          obtain ⟨eg, lg⟩ := gv_ok w hi hj
          have ei : 8 * nI i + nI j = nI (8 * i + j) := by rw [N8, pk_mul, nI_add]
          have hV1 : MV I1 V := fun a h1 h2 => by rw [f1 a (by omega)]; exact hV0 a h1 h2
          have ey : 8 * V 96 (pkI V 0 i) + V 96 (pkI V 1 j) = nI (cqX V i j) := by rw [ehb, ehg, N8, pk_mul, nI_add]; rfl
          have hx := cqX_lt w hi hj
          refine w_X12_findCouples_39 hs _ _ (br_f (by rw [g1.2.1]; exact nI_ge hj (by omega)) ⟨vp_in_nI (by omega) (by decide), ?_⟩)
          rw [nI_clamp (show i < 2 ^ 31 by omega), nI_clamp (show j < 2 ^ 31 by omega), g1.2.2.1 i hi, g1.2.2.2.1 j hj, nI_clamp (show pkI V 0 i < 2 ^ 31 by omega), nI_clamp (show pkI V 1 j < 2 ^ 31 by omega), hV1 96 (by decide) (by decide), ey, ei, nI_clamp (show 8 * i + j < 2 ^ 31 by omega), g1.2.2.2.2 i j hi hj, nI_1]
          refine ⟨vp_in_nI (by omega) (by decide), vp_in_nI (by omega) (by decide), vp_in_nI (by omega) (by decide), ?_⟩
          rintro y6 rfl
          rw [nI_clamp (show cqX V i j < 2 ^ 31 by omega), (t1 _ hx).1]
          refine ⟨vp_in_nI (by omega) (by decide), vp_in_nI (by omega) (by decide), ?_⟩
          have ok1 := cqJ_ok w hi (cqI_ok w i (by omega)) j (by omega) (cqX V i j)
          have stay : ¬ (mpA V i j ∧ (cqJ V i (cqI V i) j).1 (cqX V i j) < gfA V i j) → (J E mX12_findCouples (d + 6) Q 0 0 39 [some (.ref (eB E + 83)), some (.int (nI i)), some (.int (nI (j + 1))), none] [] h I1 L) := fun hn => by
            refine ihj I1 f1 ?_
            rw [cqJ, cqS, cif_f hn]
            exact t1
          by_cases c : mpA V i j
          · rw [cif_t c]
            refine br_c (fun c2 => stay fun e => ?_) (fun c2 => ?_)
            · have := e.2; rw [fa_lt] at this; rw [fa_le] at c2; omega
            · have hlt := fa_of_nle c2
              refine ihj _ (fun a ha => by rw [uI_ne (by omega), uI_ne (by omega), uI_ne (by omega)]; exact f1 a ha) (fun x hx => ?_)
              rw [cqJ, cqS, cif_t ⟨c, hlt⟩]
              simp (disch := decide) only [uI_ne]
              by_cases e : x = cqX V i j
              · subst e
                simp only [uI_eq, upd_same']
                exact ⟨trivial, fun _ => ⟨trivial, trivial⟩⟩
              · simp only [uI_nj e, upd_ne' e]
                exact t1 x hx
          · rw [cif_f c]
            refine br_t ?_ (stay fun e => c e.1)
            rcases ok1 with e | ⟨⟨n, hn, e⟩, -⟩
            · rw [e]; decide
            · rw [e, fa_le, nI_toInt (by omega)]; simp
      exact K39 0 (by omega) I1 f1 t1
  have K6 : ∀ k, k ≤ 64 → ∀ f, (∀ i, i < k → f i = (-1)) → (J E mX12_findCouples (d + 6) Q 0 0 6 [some (.ref (eB E + 83)), some (.int (nI k)), none, none] [] h (sA I0 143 f) L) := by
    refine dn 64 ?_ ?_
    · intro f hf
      refine w_X12_findCouples_6 hs _ (br_t (by decide) ?_)
      refine K27 0 (by omega) _ (fun a ha => sA_ne (by omega)) (fun x hx => ?_)
      rw [sA_at, hf x hx]
      exact ⟨rfl, fun e => absurd rfl e⟩
    · intro k hk ih f hf
      refine w_X12_findCouples_6 hs _ (br_f (nI_ge hk (by decide)) ⟨vp_in_nI (by omega) (by decide), ?_⟩)
      rw [nI_clamp (by omega), uI_sA, nI_1]
      refine ih _ (fun i hi => ?_)
      by_cases e : i = k
      · rw [e, upd_same']
      · rw [upd_ne' e]; exact hf i (by omega)
  have := K6 0 (by omega) (I0 143) (fun i hi => absurd hi (by omega))
  rw [sA_id] at this
  exact this
/-- is t a ring of n houses -/
def okM (V : mI) (n : Nat) (t : Nat → Nat) : Prop := ∀ k, k < n → (∀ i, i < k → t i ≠ t k) ∧ t 0 ≤ t k ∧ ¬ cG V (8 * t k + t ((k + 1) % n)) = (-1)
noncomputable def smM (V : mI) (n : Nat) (t : Nat → Nat) : Nat → Nat
  | 0 => 0
  | k + 1 => smM V n t k + (cG V (8 * t k + t ((k + 1) % n))).toNatClampNeg
theorem m_ringOf (hs : SL h) (w : Wf V) (hT : TBM I (cqA V)) {n : Nat} {t : Nat → Nat} (hn : 2 ≤ n) (hn4 : n ≤ 4) (ht : ∀ k, k < n → I 145 k = nI (t k) ∧ t k < 8) (hQ : Q (some (.int (cif (okM V n t) (nI (smM V n t n)) (-1)))) h I L) : (CT E mX12_ringOf d 0 0 [.ref (eB E + 83), .int (nI n)] h I L Q) := by
  have cgb : ∀ x, ¬ cG V x = (-1) → cG V x = nI (cG V x).toNatClampNeg ∧ (cG V x).toNatClampNeg < 159985 := fun x hx => by
    rcases cqI_ok w (pkC V 0) (Nat.le_refl _) x with e | ⟨h1, -⟩
    · exact absurd e hx
    · have h1 : inN (cG V x) 159985 := h1
      exact ⟨(h1.nat (by decide)).2, (h1.nat (by decide)).1⟩
  refine w_X12_ringOf hs _ ?_
  have K : ∀ k, k ≤ n → smM V n t k ≤ 159985 * k → (∀ k', k' < k → (∀ i, i < k' → t i ≠ t k') ∧ t 0 ≤ t k' ∧ ¬ cG V (8 * t k' + t ((k' + 1) % n)) = (-1)) → (J E mX12_ringOf d Q 0 0 4 [some (.ref (eB E + 83)), some (.int (nI n)), some (.int (nI (smM V n t k))), some (.int (nI k)), none, none] [] h I L) := by
    refine dn n ?_ ?_
    · intro _ hok
      rw [cif_t (show okM V n t from hok)] at hQ
      exact w_X12_ringOf_4 hs _ _ _ (br_t (nI_le (Nat.le_refl _) (by omega)) hQ)
    · intro k hk ih hsm hok
      obtain ⟨e1, e2⟩ := ht k hk
      have hm : (k + 1) % n < n := Nat.mod_lt _ (by omega)
      obtain ⟨e3, e4⟩ := ht _ hm
      obtain ⟨e5, e6⟩ := ht 0 (by omega)
      have er : nI k + 1 - (nI k + 1) / nI n * nI n = nI ((k + 1) % n) := by rw [nI_1, pk_rem (by omega) (by omega) (by omega)]
      have bad : (¬ ((∀ i, i < k → t i ≠ t k) ∧ t 0 ≤ t k ∧ ¬ cG V (8 * t k + t ((k + 1) % n)) = (-1))) → Q (some (.int (-1))) h I L := fun hb => by
        rw [cif_f (fun hh : okM V n t => hb (hh k hk))] at hQ
        exact hQ
      refine w_X12_ringOf_4 hs _ _ _ (br_f (nI_ge hk (by omega)) ?_)
      rw [er, nI_clamp (show k < 2 ^ 31 by omega), nI_clamp (show (k + 1) % n < 2 ^ 31 by omega), e1, e3, N8, pk_mul, nI_add]
      refine ⟨vp_in_nI (by omega) (by decide), nI_ne0 (by omega) (by omega), vp_in_nI (by omega) (by decide), ?_⟩
      rintro y4 rfl
      have K34 : ∀ i, i ≤ k → (∀ i', i' < i → t i' ≠ t k) → (J E mX12_ringOf d Q 0 0 34 [some (.ref (eB E + 83)), some (.int (nI n)), some (.int (nI (smM V n t k))), some (.int (nI k)), some (.int (nI (8 * t k + t ((k + 1) % n)))), some (.int (nI i))] [] h I L) := by
        refine dn k ?_ ?_
        · intro hd
          refine w_X12_ringOf_34 hs _ _ _ _ _ (br_t (nI_le (Nat.le_refl _) (by omega)) ⟨vp_in_nI (by omega) (by decide), ?_⟩)
          rw [nI_clamp (show k < 2 ^ 31 by omega), e1, e5, nI_clamp (show 8 * t k + t ((k + 1) % n) < 2 ^ 31 by omega), (hT _ (show 8 * t k + t ((k + 1) % n) < 64 by omega)).1, nI_ltI (by omega) (by omega)]
          refine br_c (fun c => bad fun e => by omega) (fun c => ⟨vp_in_nI (by omega) (by decide), br_c (fun c2 => bad fun e => e.2.2 c2) (fun c2 => ?_)⟩)
          obtain ⟨q1, q2⟩ := cgb _ c2
          have eq1 : (cqA V).1 (8 * t k + t ((k + 1) % n)) = nI (cG V (8 * t k + t ((k + 1) % n))).toNatClampNeg := q1
          rw [eq1, nI_add, nI_1]
          rintro y6 rfl
          refine ih ?_ (lt_s hok ⟨hd, by omega, c2⟩)
          rw [smM]; omega
        · intro i hi ihi hd
          obtain ⟨e7, e8⟩ := ht i (by omega)
          refine w_X12_ringOf_34 hs _ _ _ _ _ (br_f (nI_ge hi (by omega)) ⟨vp_in_nI (by omega) (by decide), vp_in_nI (by omega) (by decide), ?_⟩)
          rw [nI_clamp (show i < 2 ^ 31 by omega), nI_clamp (show k < 2 ^ 31 by omega), e7, e1, nI_eq (by omega) (by omega), nI_1]
          exact br_c (fun c => bad fun e => e.1 i hi c) (fun c => ihi (lt_s hd c))
      exact K34 0 (by omega) (fun i' hi' => absurd hi' (by omega))
  exact K 0 (by omega) (by rw [smM]; omega) (fun k' hk' => absurd hk' (by omega))
end RM6
