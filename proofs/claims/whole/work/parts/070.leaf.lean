/-! leaves of the component: fill, copy, clearRow, the ways -/
section LF
variable {E : Envt} {d : Nat} {Q : Pst} {h : mS} {I : mI} {L : mL}
theorem c_fillA {a0 n0 : Nat} {x1 : Int32} (hs : SL h) (hl0 : a0 < h.2.2) (hk0 : h.1 a0 = (14, n0)) (hn : n0 < 2 ^ 31) (hQ : ∀ f : Nat → Int32, (∀ i, i < n0 → f i = x1) → (∀ i, n0 ≤ i → f i = I a0 i) → Q none h (sA I a0 f) L) :
    (CT E mJ7_fill_53178 d 0 0 [.ref (eB E + a0), .int x1] h I L Q) := by
  refine w_J7_fill_53178 hs x1 hl0 hk0 ?_
  have K : ∀ k, k ≤ n0 → ∀ f : Nat → Int32, (∀ i, i < k → f i = x1) → (∀ i, n0 ≤ i → f i = I a0 i) → (J E mJ7_fill_53178 d Q 0 0 5 [some (.ref (eB E + a0)), some (.int x1), some (.int (nI k)), some (.int (nI n0))] [] h (sA I a0 f) L) := by
    refine dn n0 ?_ ?_
    · intro f h1 h2
      exact w_J7_fill_53178_5 hs hl0 hk0 _ _ _ (br_t (nI_le (Nat.le_refl _) hn) (hQ f h1 h2))
    · intro k hk ih f h1 h2
      refine w_J7_fill_53178_5 hs hl0 hk0 _ _ _ (br_f (nI_ge hk hn) ⟨vp_in_nI hk hn, ?_⟩)
      rw [nI_1, nI_clamp (by omega), uI_sA]
      refine ih _ (fun i hi => ?_) (fun i hi => ?_)
      · by_cases e : i = k
        · subst e; exact upd_same'
        · rw [upd_ne' e]; exact h1 i (by omega)
      · rw [upd_ne' (by omega)]; exact h2 i hi
  have := K 0 (by omega) (I a0) (fun i hi => absurd hi (by omega)) (fun i _ => rfl)
  rw [sA_id] at this
  exact this
theorem cpI_s {a0 a1 n : Nat} : cpI I a0 a1 0 0 n = sA I a1 (va_cpy (I a0) (I a1) 0 0 n) := by
  funext b j
  by_cases e : b = a1
  · subst e; simp [cpI, sA]
  · simp [cpI, sA, e]
theorem c_copyA {a0 a1 n0 n1 : Nat} (hs : SL h) (hl0 : a0 < h.2.2) (hk0 : h.1 a0 = (14, n0)) (hl1 : a1 < h.2.2) (hk1 : h.1 a1 = (14, n1)) (hn : n0 < 2 ^ 31) (hn1 : n1 < 2 ^ 31) (hQ : ∀ f : Nat → Int32, (∀ i, i < n0 → i < n1 → f i = I a0 i) → (∀ i, n0 ≤ i ∨ n1 ≤ i → f i = I a1 i) → Q none h (sA I a1 f) L) :
    (CT E mX11_copy (d + 1) 0 0 [.ref (eB E + a0), .ref (eB E + a1)] h I L Q) := by
  refine w_X11_copy hs hl0 hk0 hl1 hk1 ?_
  have e : (if (Int32.ofNat n1) < (Int32.ofNat n0) then (Int32.ofNat n1) else (Int32.ofNat n0) : Int32) = nI (min n0 n1) := by
    show (if nI n1 < nI n0 then nI n1 else nI n0) = _
    simp (disch := omega) only [nI_ltI]
    split
    · rw [Nat.min_eq_right (by omega)]
    · rw [Nat.min_eq_left (by omega)]
  rw [e, nI_clamp (by omega), cpI_s]
  refine ⟨nI_pos (by omega), by omega, by omega, hQ _ (fun i h1 h2 => ?_) (fun i hi => ?_)⟩
  · rw [pk_cpy_in (by omega) (by omega)]
    congr 1
    omega
  · exact pk_cpy_out (by omega)
theorem c_forget (hs : SL h) (hQ : ∀ f : Nat → Int32, (∀ i, i < 5 → f i = (-1)) → Q none h (sA I 57 f) L) : (CT E mX3_forget (d + 1) 0 0 [.ref (eB E + 56)] h I L Q) := by
  refine w_X3_forget hs ?_
  exact c_fillA hs (lt57 hs) (kk57 hs) (by decide) (fun f h1 _ => ⟨rfl, rfl, rfl, hQ f h1⟩)
theorem c_clearRow {a0 n0 s n : Nat} (hs : SL h) (hl0 : a0 < h.2.2) (hk0 : h.1 a0 = (14, n0)) (hn : n0 < 2 ^ 31) (hsn : s + n ≤ n0) (hQ : ∀ f : Nat → Int32, (∀ i, s ≤ i → i < s + n → f i = (-1)) → (∀ i, i < s ∨ s + n ≤ i → f i = I a0 i) → Q none h (sA I a0 f) L) :
    (CT E mX11_clearRow d 0 0 [.ref (eB E + a0), .int (nI s), .int (nI n)] h I L Q) := by
  refine w_X11_clearRow hs (nI s) (nI n) hl0 hk0 ?_
  have K : ∀ k, k ≤ n → ∀ f : Nat → Int32, (∀ i, s ≤ i → i < s + k → f i = (-1)) → (∀ i, i < s ∨ s + n ≤ i → f i = I a0 i) → (J E mX11_clearRow d Q 0 0 2 [some (.ref (eB E + a0)), some (.int (nI s)), some (.int (nI n)), some (.int (nI (s + k)))] [] h (sA I a0 f) L) := by
    refine dn n ?_ ?_
    · intro f h1 h2
      exact w_X11_clearRow_2 hs hl0 hk0 _ _ _ (br_t (by rw [nI_add]; exact nI_le (Nat.le_refl _) (by omega)) (hQ f h1 h2))
    · intro k hk ih f h1 h2
      refine w_X11_clearRow_2 hs hl0 hk0 _ _ _ (br_f (by rw [nI_add]; exact nI_ge (by omega) (by omega)) (br_f (nI_ge (by omega) (by omega)) ⟨vp_in_nI (by omega) hn, ?_⟩))
      rw [nI_1, nI_clamp (by omega), uI_sA]
      refine ih _ (fun i h3 h4 => ?_) (fun i hi => ?_)
      · by_cases e : i = s + k
        · subst e; exact upd_same'
        · rw [upd_ne' e]; exact h1 i h3 (by omega)
      · rw [upd_ne' (by omega)]; exact h2 i hi
  have := K 0 (by omega) (I a0) (fun i _ hi => absurd hi (by omega)) (fun i _ => rfl)
  rw [sA_id] at this
  exact this
/-! the ways -/
def wRep (w : Nat → Int32) (D : Nat → Nat → Nat) : Prop := ∀ a b, a < 5 → b < 5 → w (5 * a + b) = rp (D a b)
theorem rp_m1 {n : Nat} (h : n ≤ 1000000) : rp n = (-1) ↔ n = 1000000 := by
  unfold rp
  split
  · rename_i e; simp [e]
  · rename_i e
    constructor
    · intro q
      have := congrArg Int32.toInt q
      rw [nI_toInt (by omega)] at this
      simp at this
    · intro q; exact absurd q e
theorem c_shortenWays {k : Nat} (hs : SL h) (hk : k < 5) {r : Nat → Int32} {D : Nat → Nat → Nat} (hD : fwI r D k) (hw : wRep (I 23) D) (hQ : ∀ f, wRep f (fwD D k) → Q none h (sA I 23 f) L) :
    (CT E mX5_shortenWays (d + 1) 0 0 [.ref (eB E + 17), .int (nI k)] h I L Q) := by
  have p5 : 2 ^ k ≤ 16 := by
    have : k = 0 ∨ k = 1 ∨ k = 2 ∨ k = 3 ∨ k = 4 := by omega
    rcases this with rfl | rfl | rfl | rfl | rfl <;> decide
  have hkk := hD.2.1 k hk
  have bd : ∀ a b, a < 5 → b < 5 → D a b = 1000000 ∨ D a b ≤ 160 := fun a b ha hb => by have := hD.1 a b ha hb; omega
  have sk1 : ∀ a, a < 5 → fwD D k a k = D a k := fun a ha => by unfold fwD; omega
  have sk2 : ∀ b, b < 5 → fwD D k k b = D k b := fun b hb => by unfold fwD; omega
  refine w_X5_shortenWays hs (nI k) ?_
  have K21 : ∀ a, a < 5 → (∀ f, (∀ a' b, a' < 5 → b < 5 → f (5 * a' + b) = rp (if a' ≤ a then fwD D k a' b else D a' b)) → (J E mX5_shortenWays (d + 1) Q 0 0 2 [some (.ref (eB E + 17)), some (.int (nI k)), some (.int (nI (a + 1))), none, none, none] [] h (sA I 23 f) L)) →
      ∀ b, b ≤ 5 → ∀ f, (∀ a' b', a' < 5 → b' < 5 → f (5 * a' + b') = rp (if a' < a ∨ (a' = a ∧ b' < b) then fwD D k a' b' else D a' b')) → (J E mX5_shortenWays (d + 1) Q 0 0 21 [some (.ref (eB E + 17)), some (.int (nI k)), some (.int (nI a)), some (.int (rp (D a k))), some (.int (nI b)), none] [] h (sA I 23 f) L) := by
    intro a ha hK
    refine dn 5 ?_ ?_
    · intro f hf
      refine w_X5_shortenWays_21 hs _ _ _ _ (br_t (by decide) ?_)
      rw [nI_1]
      refine hK f fun a' b' h1 h2 => ?_
      rw [hf a' b' h1 h2]
      congr 1
      by_cases q : a' ≤ a
      · rw [if_pos q, if_pos (by omega)]
      · rw [if_neg q, if_neg (by omega)]
    · intro b hb ih f hf
      refine w_X5_shortenWays_21 hs _ _ _ _ (br_f (nI_ge hb (by decide)) ?_)
      have bak := bd a k ha hk
      have bkb := bd k b hk hb
      have bab := bd a b ha hb
      by_cases e1 : D a k = 1000000
      · refine br_t (by rw [e1]; rfl) ?_
        rw [nI_1]
        refine hK f fun a' b' h1 h2 => ?_
        rw [hf a' b' h1 h2]
        congr 1
        by_cases q : a' < a
        · rw [if_pos (by omega), if_pos (by omega)]
        · by_cases q2 : a' = a
          · subst q2
            have := bd a' b' h1 h2
            have e : fwD D k a' b' = D a' b' := by unfold fwD; omega
            rw [e, ite_self, ite_self]
          · rw [if_neg (by omega), if_neg (by omega)]
      · refine br_f (by rw [rp_m1 (by omega)]; exact e1) ?_
        have ei : nI k * 5 + nI b = nI (5 * k + b) := by rw [N5, pk_mul, nI_add, Nat.mul_comm]
        have ej : nI a * 5 + nI b = nI (5 * a + b) := by rw [N5, pk_mul, nI_add, Nat.mul_comm]
        rw [ei, ej, nI_clamp (by omega), sA_at]
        refine ⟨vp_in_nI (by omega) (by decide), ?_⟩
        have ev : f (5 * k + b) = rp (D k b) := by
          rw [hf k b hk hb]
          congr 1
          rw [sk2 b hb, ite_self]
        rintro y4 rfl
        rw [ev]
        by_cases e2 : D k b = 1000000
        · refine br_t (by rw [e2]; rfl) ?_
          rw [nI_1]
          refine ih f fun a' b' h1 h2 => ?_
          rw [hf a' b' h1 h2]
          congr 1
          by_cases q : a' < a ∨ (a' = a ∧ b' < b)
          · rw [if_pos q, if_pos (by omega)]
          · by_cases q2 : a' = a ∧ b' = b
            · obtain ⟨rfl, rfl⟩ := q2
              have e : fwD D k a' b' = D a' b' := by unfold fwD; omega
              rw [e, ite_self, ite_self]
            · rw [if_neg q, if_neg (by omega)]
        · refine br_f (by rw [rp_m1 (by omega)]; exact e2) ?_
          have es : rp (D a k) + rp (D k b) = nI (D a k + D k b) := by
            unfold rp
            rw [if_neg e1, if_neg e2, nI_add]
          have eo : f (5 * a + b) = rp (D a b) := by
            rw [hf a b ha hb, if_neg (by omega)]
          rw [es]
          have fin : ∀ g : Nat → Int32, (∀ i, i < 25 → i ≠ 5 * a + b → g i = f i) → g (5 * a + b) = rp (fwD D k a b) → (J E mX5_shortenWays (d + 1) Q 0 0 21 [some (.ref (eB E + 17)), some (.int (nI k)), some (.int (nI a)), some (.int (rp (D a k))), some (.int (nI b + 1)), none] [] h (sA I 23 g) L) := by
            intro g g1 g2
            rw [nI_1]
            refine ih g fun a' b' h1 h2 => ?_
            by_cases q2 : a' = a ∧ b' = b
            · obtain ⟨rfl, rfl⟩ := q2
              rw [g2, if_pos (by omega)]
            · rw [g1 _ (by omega) (by omega), hf a' b' h1 h2]
              congr 1
              by_cases q : a' < a ∨ (a' = a ∧ b' < b)
              · rw [if_pos q, if_pos (by omega)]
              · rw [if_neg q, if_neg (by omega)]
          refine w_X5_shorten hs _ _ ?_
          rw [nI_clamp (by omega), sA_at, eo]
          refine ⟨vp_in_nI (by omega) (by decide), ?_⟩
          by_cases e3 : D a b = 1000000
          · refine br_t (by rw [e3]; rfl) ⟨rfl, rfl, rfl, ?_⟩
            rw [uI_sA]
            refine fin _ (fun i _ hi => upd_ne' hi) ?_
            rw [upd_same']
            have : fwD D k a b = D a k + D k b := by unfold fwD; omega
            rw [this]; unfold rp; rw [if_neg (by omega)]
          · refine br_f (by rw [rp_m1 (by omega)]; exact e3) ?_
            have e4 : rp (D a b) = nI (D a b) := by unfold rp; rw [if_neg e3]
            rw [e4]
            by_cases e5 : D a b ≤ D a k + D k b
            · refine br_t (nI_le e5 (by omega)) ⟨rfl, rfl, rfl, ?_⟩
              refine fin f (fun _ _ _ => rfl) ?_
              have : fwD D k a b = D a b := by unfold fwD; omega
              rw [this, eo]
            · refine br_f (nI_ge (by omega) (by omega)) ⟨rfl, rfl, rfl, ?_⟩
              rw [uI_sA]
              refine fin _ (fun i _ hi => upd_ne' hi) ?_
              rw [upd_same']
              have : fwD D k a b = D a k + D k b := by unfold fwD; omega
              rw [this]; unfold rp; rw [if_neg (by omega)]
  have K2 : ∀ a, a ≤ 5 → ∀ f, (∀ a' b, a' < 5 → b < 5 → f (5 * a' + b) = rp (if a' < a then fwD D k a' b else D a' b)) → (J E mX5_shortenWays (d + 1) Q 0 0 2 [some (.ref (eB E + 17)), some (.int (nI k)), some (.int (nI a)), none, none, none] [] h (sA I 23 f) L) := by
    refine dn 5 ?_ ?_
    · intro f hf
      refine w_X5_shortenWays_2 hs _ _ (br_t (by decide) (hQ f fun a b ha hb => ?_))
      rw [hf a b ha hb, if_pos ha]
    · intro a ha ih f hf
      refine w_X5_shortenWays_2 hs _ _ (br_f (nI_ge ha (by decide)) ?_)
      have ei : nI a * 5 + nI k = nI (5 * a + k) := by rw [N5, pk_mul, nI_add, Nat.mul_comm]
      rw [ei, nI_clamp (by omega), sA_at]
      refine ⟨vp_in_nI (by omega) (by decide), ?_⟩
      rintro y3 rfl
      have ev : f (5 * a + k) = rp (D a k) := by rw [hf a k ha hk, if_neg (by omega)]
      rw [ev]
      refine K21 a ha (fun g hg => ih g fun a' b h1 h2 => ?_) 0 (by omega) f fun a' b h1 h2 => ?_
      · rw [hg a' b h1 h2]
        congr 1
        by_cases q : a' ≤ a
        · rw [if_pos q, if_pos (by omega)]
        · rw [if_neg q, if_neg (by omega)]
      · rw [hf a' b h1 h2]
        congr 1
        by_cases q : a' < a
        · rw [if_pos q, if_pos (by omega)]
        · rw [if_neg q, if_neg (by omega)]
  have := K2 0 (by omega) (I 23) (fun a b ha hb => by rw [hw a b ha hb, if_neg (by omega)])
  rw [sA_id] at this
  exact this
end LF
