/-! stable pairing: rounds of asking -/
noncomputable def lbA (V : mI) (i j : Nat) : Int32 := lkA V (pkI V 0 i) (pkI V 1 j)
noncomputable def lgA (V : mI) (i j : Nat) : Int32 := lkA V (pkI V 1 j) (pkI V 0 i)
abbrev StT : Type := (Nat → Int32) × (Nat → Nat → Bool)
noncomputable def stN (V : mI) (a : Nat → Nat → Bool) (j : Nat) : Nat → Int32
  | 0 => (-1)
  | i + 1 => cif (mpA V i j ∧ a i j = false ∧ (stN V a j i = (-1) ∨ ¬ lgA V i j ≤ lgA V (stN V a j i).toNatClampNeg j)) (nI i) (stN V a j i)
theorem stN_c (V : mI) (a : Nat → Nat → Bool) (j : Nat) : ∀ n, stN V a j n = (-1) ∨ ∃ i, i < n ∧ stN V a j n = nI i ∧ mpA V i j ∧ a i j = false := by
  intro n
  induction n with
  | zero => exact Or.inl rfl
  | succ n ih =>
    rw [stN]
    by_cases c : mpA V n j ∧ a n j = false ∧ (stN V a j n = (-1) ∨ ¬ lgA V n j ≤ lgA V (stN V a j n).toNatClampNeg j)
    · rw [cif_t c]; exact Or.inr ⟨n, by omega, rfl, c.1, c.2.1⟩
    · rw [cif_f c]
      rcases ih with e | ⟨i, h1, h2⟩
      · exact Or.inl e
      · exact Or.inr ⟨i, by omega, h2⟩
def stR (V : mI) (t : Nat → Int32) (i j : Nat) : Prop := t i = (-1) ∨ lbA V i (t i).toNatClampNeg < lbA V i j ∨ (lbA V i j = lbA V i (t i).toNatClampNeg ∧ ¬ t i ≤ nI j)
/-- groom j asks someone -/
def stK (V : mI) (s : StT) (j : Nat) : Prop := (¬ ∃ i, i < pkC V 0 ∧ s.1 i = nI j) ∧ ¬ stN V s.2 j (pkC V 0) = (-1)
noncomputable def stW (V : mI) (s : StT) (j : Nat) : Nat := (stN V s.2 j (pkC V 0)).toNatClampNeg
noncomputable def stU (V : mI) (s : StT) (j : Nat) : StT := (fun i => if i = stW V s j then cif (stR V s.1 i j) (nI j) (s.1 i) else s.1 i, fun i' j' => if i' = stW V s j ∧ j' = j then true else s.2 i' j')
noncomputable def stS (V : mI) (s : StT) (j : Nat) : StT := cif (stK V s j) (stU V s j) s
noncomputable def stP (V : mI) (s : StT) : Nat → StT
  | 0 => s
  | j + 1 => stS V (stP V s j) j
noncomputable def stI (V : mI) : Nat → StT
  | 0 => (fun _ => (-1), fun _ _ => false)
  | k + 1 => stP V (stI V k) (pkC V 1)
def stQ (V : mI) (s : StT) (n : Nat) : Prop := ∀ j, j < n → ¬ stK V (stP V s j) j
theorem stQ_id {V : mI} {s : StT} : ∀ n, stQ V s n → stP V s n = s := by
  intro n
  induction n with
  | zero => intro _; rfl
  | succ n ih =>
    intro h
    rw [stP, stS, cif_f (h n (by omega)), ih (fun j hj => h j (by omega))]
theorem stI_fix {V : mI} {k : Nat} (h : stQ V (stI V k) (pkC V 1)) : ∀ n, stI V (k + n) = stI V k := by
  intro n
  induction n with
  | zero => rfl
  | succ n ih =>
    rw [← Nat.add_assoc, stI, ih]
    exact stQ_id _ h
noncomputable def stF (V : mI) : Nat → Int32 := (stI V 65).1
theorem stF_of {V : mI} {k : Nat} (hk : k ≤ 65) (h : stQ V (stI V k) (pkC V 1)) : (stI V k).1 = stF V := by
  unfold stF
  rw [show 65 = k + (65 - k) by omega, stI_fix h]
/-- what a state is like -/
def stOK (V : mI) (s : StT) : Prop := tkOK V s.1 ∧ ∀ i j, s.2 i j = true → i < pkC V 0 ∧ j < pkC V 1
theorem stW_ok {V : mI} {s : StT} {j : Nat} (h : stK V s j) : stW V s j < pkC V 0 ∧ stN V s.2 j (pkC V 0) = nI (stW V s j) ∧ mpA V (stW V s j) j ∧ s.2 (stW V s j) j = false := by
  have p0 := pk8 V 0
  rcases stN_c V s.2 j (pkC V 0) with e | ⟨i, h1, h2, h3, h4⟩
  · exact absurd e h.2
  · unfold stW
    rw [h2, nI_clamp (by omega)]
    exact ⟨h1, rfl, h3, h4⟩
theorem stS_ok {V : mI} {s : StT} {j : Nat} (hj : j < pkC V 1) (h : stOK V s) : stOK V (stS V s j) := by
  unfold stS
  by_cases c : stK V s j
  · rw [cif_t c]
    obtain ⟨w1, w2, w3, w4⟩ := stW_ok c
    refine ⟨fun i hi => ?_, fun i j' hij => ?_⟩
    · show (if i = stW V s j then cif (stR V s.1 i j) (nI j) (s.1 i) else s.1 i) = (-1) ∨ ∃ k, k < pkC V 1 ∧ (if i = stW V s j then cif (stR V s.1 i j) (nI j) (s.1 i) else s.1 i) = nI k
      split
      · by_cases c2 : stR V s.1 i j
        · rw [cif_t c2]; exact Or.inr ⟨j, hj, rfl⟩
        · rw [cif_f c2]; exact h.1 i hi
      · exact h.1 i hi
    · have hij : (if i = stW V s j ∧ j' = j then true else s.2 i j') = true := hij
      by_cases c2 : i = stW V s j ∧ j' = j
      · exact ⟨by rw [c2.1]; exact w1, by rw [c2.2]; exact hj⟩
      · rw [if_neg c2] at hij; exact h.2 i j' hij
  · rw [cif_f c]; exact h
theorem stP_ok {V : mI} {s : StT} (h : stOK V s) : ∀ j, j ≤ pkC V 1 → stOK V (stP V s j) := by
  intro j
  induction j with
  | zero => intro _; exact h
  | succ j ih => intro hj; exact stS_ok (by omega) (ih (by omega))
theorem stI_ok (V : mI) : ∀ k, stOK V (stI V k) := by
  intro k
  induction k with
  | zero => exact ⟨fun i _ => Or.inl rfl, fun i j h => by cases h⟩
  | succ k ih => exact stP_ok ih _ (Nat.le_refl _)
/-- how many couples have asked -/
def stC (s : StT) : Nat := fb_ct (fun x => s.2 (x / 8) (x % 8)) 64
theorem stC_U {V : mI} {s : StT} {j : Nat} (hj : j < pkC V 1) (h : stK V s j) : stC (stU V s j) = stC s + 1 := by
  have p0 := pk8 V 0
  have p1 := pk8 V 1
  obtain ⟨w1, w2, w3, w4⟩ := stW_ok h
  have hx : 8 * stW V s j + j < 64 := by omega
  have e1 : (fun x => (stU V s j).2 (x / 8) (x % 8)) = fun x => if x = 8 * stW V s j + j then true else s.2 (x / 8) (x % 8) := by
    funext x
    show (if x / 8 = stW V s j ∧ x % 8 = j then true else s.2 (x / 8) (x % 8)) = _
    by_cases c : x = 8 * stW V s j + j
    · rw [if_pos c, if_pos (by omega)]
    · rw [if_neg c, if_neg (by omega)]
  have := fb_ct_upd (fun x => s.2 (x / 8) (x % 8)) true hx
  unfold stC
  rw [e1]
  have d1 : (8 * stW V s j + j) / 8 = stW V s j := by omega
  have d2 : (8 * stW V s j + j) % 8 = j := by omega
  rw [d1, d2, w4] at this
  simpa using this
theorem stC_S {V : mI} {s : StT} {j : Nat} (hj : j < pkC V 1) : stC s ≤ stC (stS V s j) ∧ (stK V s j → stC s < stC (stS V s j)) := by
  unfold stS
  by_cases c : stK V s j
  · rw [cif_t c, stC_U hj c]; exact ⟨by omega, fun _ => by omega⟩
  · rw [cif_f c]; exact ⟨Nat.le_refl _, fun e => absurd e c⟩
theorem stC_P {V : mI} {s : StT} : ∀ n, n ≤ pkC V 1 → stC s ≤ stC (stP V s n) ∧ (¬ stQ V s n → stC s < stC (stP V s n)) := by
  intro n
  induction n with
  | zero => intro _; exact ⟨Nat.le_refl _, fun h => absurd (fun j hj => absurd hj (by omega)) h⟩
  | succ n ih =>
    intro hn
    obtain ⟨i1, i2⟩ := ih (by omega)
    obtain ⟨j1, j2⟩ := stC_S (V := V) (s := stP V s n) (j := n) (by omega)
    refine ⟨Nat.le_trans i1 j1, fun h => ?_⟩
    show stC s < stC (stS V (stP V s n) n)
    by_cases c : stQ V s n
    · have hk : stK V (stP V s n) n := Classical.byContradiction fun e => h fun j hj => by
        by_cases ej : j = n
        · rw [ej]; exact e
        · exact c j (by omega)
      have := j2 hk
      omega
    · have := i2 c
      omega
theorem stC_64 (s : StT) : stC s ≤ 64 := fb_ct_le _ _
/-- likings are small -/
theorem rdF_like {V : mI} (w : Wf V) {x : Nat} (hx : x < 67) {f : Nat → Int32} : ∀ l : Nat, l ≤ 16 → -(9999 * (l : Int)) ≤ (rdF V x f l).2.2.2.toInt ∧ (rdF V x f l).2.2.2.toInt ≤ 9999 * (l : Int) := by
  intro l
  induction l with
  | zero => intro _; exact ⟨by show _ ≤ (0 : Int32).toInt; decide, by show (0 : Int32).toInt ≤ _; decide⟩
  | succ l ih =>
    intro hl
    obtain ⟨h1, h2⟩ := ih (by omega)
    rw [rdF]
    by_cases c : lnH V (16 * x + l) f
    · rw [cif_t c]
      unfold rdU
      dsimp only
      obtain ⟨n, hn, e⟩ := w.T.nu (16 * x + l) (by omega)
      have en : (nI n).toInt = n := nI_toInt (by omega)
      have em : (-nI n).toInt = -(n : Int) := by rw [fb_negI (by omega), en]
      rw [e]
      split
      · rw [fb_addI] <;> rw [en] <;> omega
      · split
        · rw [fb_addI] <;> rw [em] <;> omega
        · simp; omega
    · rw [cif_f c]; omega
theorem lkA_b {V : mI} (w : Wf V) {p o : Nat} (hp : p < 20) : -159984 ≤ (lkA V p o).toInt ∧ (lkA V p o).toInt ≤ 159984 := by
  obtain ⟨k2, ek⟩ := kd_ok w hp
  obtain ⟨nl, h17, e116⟩ := w.T.li (5 + (V 97 p).toNatClampNeg) (by omega)
  have := rdF_like w (x := 5 + (V 97 p).toNatClampNeg) (by omega) (f := lkF V p o) nl (by omega)
  unfold lkA rdA
  rw [e116, nI_clamp (by omega)]
  omega
section ST
variable {E : Envt} {d : Nat} {Q : Pst} {h : mS} {I V : mI} {L : mL}
/-! the component -/
def GL (I V : mI) : Prop := ∀ i j, i < pkC V 0 → j < pkC V 1 → mpA V i j → I 72 (8 * i + j) = lbA V i j ∧ I 73 (8 * i + j) = lgA V i j
theorem GA.cg {I I' V : mI} (g : GA I V) (f : ∀ a, 65 ≤ a → a ≤ 71 → I' a = I a) : GA I' V := by
  unfold GA
  rw [f 65 (by decide) (by decide), f 66 (by decide) (by decide), f 67 (by decide) (by decide), f 68 (by decide) (by decide), f 69 (by decide) (by decide), f 70 (by decide) (by decide), f 71 (by decide) (by decide)]
  exact g
theorem GM.cg {I I' V : mI} (g : GM I V) (f : ∀ a, 134 ≤ a → a ≤ 137 → I' a = I a) : GM I' V := by
  unfold GM
  rw [f 134 (by decide) (by decide), f 135 (by decide) (by decide), f 136 (by decide) (by decide), f 137 (by decide) (by decide)]
  exact g
theorem c_askLikings (q : CQ h I V) (hG : GA I V) (hQ : ∀ I', (∀ a, a < 56 ∨ (64 < a ∧ a < 72) ∨ 73 < a → I' a = I a) → Kc I' V → GL I' V → Q none h I' L) : (CT E mX6_askLikings (d + 5) 0 0 [.ref (eB E + 65)] h I L Q) := by
  have p0 := pk8 V 0
  have p1 := pk8 V 1
  refine w_X6_askLikings q.s ?_
  have K2 : ∀ i, i ≤ pkC V 0 → ∀ I1, (∀ a, a < 56 ∨ (64 < a ∧ a < 72) ∨ 73 < a → I1 a = I a) → Kc I1 V → (∀ i' j, i' < i → j < pkC V 1 → mpA V i' j → I1 72 (8 * i' + j) = lbA V i' j ∧ I1 73 (8 * i' + j) = lgA V i' j) → (J E mX6_askLikings (d + 5) Q 0 0 2 [some (.ref (eB E + 65)), some (.int (nI i)), none, none] [] h I1 L) := by
    refine dn (pkC V 0) ?_ ?_
    · intro I1 f1 k1 t1
      exact w_X6_askLikings_2 q.s _ (br_t (by rw [f1 65 (by decide), hG.1]; exact nI_le (Nat.le_refl _) (by omega)) (hQ I1 f1 k1 t1))
    · intro i hi ih I1 f1 k1 t1
      refine w_X6_askLikings_2 q.s _ (br_f (by rw [f1 65 (by decide), hG.1]; exact nI_ge hi (by omega)) ?_)
      have K12 : ∀ j, j ≤ pkC V 1 → ∀ I1, (∀ a, a < 56 ∨ (64 < a ∧ a < 72) ∨ 73 < a → I1 a = I a) → Kc I1 V → (∀ i' j', (i' < i ∧ j' < pkC V 1) ∨ (i' = i ∧ j' < j) → mpA V i' j' → I1 72 (8 * i' + j') = lbA V i' j' ∧ I1 73 (8 * i' + j') = lgA V i' j') → (J E mX6_askLikings (d + 5) Q 0 0 12 [some (.ref (eB E + 65)), some (.int (nI i)), some (.int (nI j)), none] [] h I1 L) := by
        refine dn (pkC V 1) ?_ ?_
        · intro I1 f1 k1 t1
          refine w_X6_askLikings_12 q.s _ _ (br_t (by rw [f1 65 (by decide), hG.2.1]; exact nI_le (Nat.le_refl _) (by omega)) ?_)
          rw [nI_1]
          exact ih I1 f1 k1 (fun i' j' h1 h2 => t1 i' j' (by omega))
        · intro j hj ihj I1 f1 k1 t1
          obtain ⟨b1, -, -⟩ := pk_ok hi
          obtain ⟨g1, -, -⟩ := pk_ok hj
          have ei : nI i * 8 + nI j = nI (8 * i + j) := by rw [N8, pk_mul, nI_add, Nat.mul_comm]
          refine w_X6_askLikings_12 q.s _ _ (br_f (by rw [f1 65 (by decide), hG.2.1]; exact nI_ge hj (by omega)) ?_)
          rw [ei, nI_clamp (show 8 * i + j < 2 ^ 31 by omega), nI_clamp (show i < 2 ^ 31 by omega), nI_clamp (show j < 2 ^ 31 by omega), f1 68 (by decide), f1 66 (by decide), f1 67 (by decide), (hG.2.2.2.2 i j hi hj).1, hG.2.2.1 i hi, hG.2.2.2.1 j hj, nI_1]
          refine ⟨vp_in_nI (by omega) (by decide), ?_⟩
          by_cases c : mpA V i j
          · rw [cif_t c]
            refine br_f (by decide) ⟨vp_in_nI (by omega) (by decide), vp_in_nI (by omega) (by decide), ?_⟩
            have q1 : CQ h I1 V := q.fr (fun a ha => f1 a (by omega)) k1
            refine c_likes q1 b1 g1 (fun I2 j2 k2 => qi_i ?_)
            rw [j2 66 (by decide), j2 67 (by decide), f1 66 (by decide), f1 67 (by decide), hG.2.2.1 i hi, hG.2.2.2.1 j hj]
            have q2 : CQ h (uI I2 72 (8 * i + j) (lkA V (pkI V 0 i) (pkI V 1 j))) V := q1.fr (fun a ha => by
              by_cases e : a = 72
              · exfalso; omega
              · rw [uI_ne e]; exact j2 a (by omega)) (k2.cg (uI_ne (by decide)) (uI_ne (by decide)))
            refine c_likes q2 g1 b1 (fun I3 j3 k3 => qi_i ?_)
            refine ihj _ (fun a ha => ?_) (k3.cg (uI_ne (by decide)) (uI_ne (by decide))) (fun i' j' hij hm => ?_)
            · rw [uI_ne (by omega), j3 a (by omega), uI_ne (by omega), j2 a (by omega)]; exact f1 a ha
            · rw [uI_ne (show (72 : Nat) ≠ 73 by decide), j3 72 (by decide)]
              by_cases e : i' = i ∧ j' = j
              · obtain ⟨rfl, rfl⟩ := e
                rw [uI_eq, uI_eq]; exact ⟨rfl, rfl⟩
              · have hne : 8 * i' + j' ≠ 8 * i + j := by omega
                rw [uI_nj hne, uI_nj hne, j3 73 (by decide), uI_ne (by decide), j2 72 (by decide), j2 73 (by decide)]
                exact t1 i' j' (by omega) hm
          · rw [cif_f c]
            refine br_t rfl (ihj I1 f1 k1 (fun i' j' hij hm => ?_))
            by_cases e : i' = i ∧ j' = j
            · obtain ⟨rfl, rfl⟩ := e; exact absurd hm c
            · exact t1 i' j' (by omega) hm
      exact K12 0 (by omega) I1 f1 k1 (fun i' j' h1 => t1 i' j' (by omega) (by omega))
  exact K2 0 (by omega) I (fun _ _ => rfl) q.k (fun i' j' h1 => absurd h1 (by omega))
def RC (I V : mI) (s : StT) : Prop := (∀ i, i < pkC V 0 → I 76 i = s.1 i) ∧ ∀ i j, i < pkC V 0 → j < pkC V 1 → I 74 (8 * i + j) = if s.2 i j = true then 1 else 0
theorem c_isKept (hs : SL h) (hG : GA I V) {s : StT} (hr : RC I V s) {j : Nat} (hQ : Q (some (.int (cif (∃ i, i < pkC V 0 ∧ s.1 i = nI j) 1 0))) h I L) : (CT E mX6_isKept d 0 0 [.ref (eB E + 65), .int (nI j)] h I L Q) := by
  have p0 := pk8 V 0
  refine w_X6_isKept hs _ ?_
  have K : ∀ i, i ≤ pkC V 0 → (∀ k, k < i → ¬ s.1 k = nI j) → (J E mX6_isKept d Q 0 0 2 [some (.ref (eB E + 65)), some (.int (nI j)), some (.int (nI i))] [] h I L) := by
    refine dn (pkC V 0) ?_ ?_
    · intro hno
      rw [cif_f (by rintro ⟨i, h1, h2⟩; exact hno i h1 h2)] at hQ
      exact w_X6_isKept_2 hs _ _ (br_t (by rw [hG.1]; exact nI_le (Nat.le_refl _) (by omega)) hQ)
    · intro i hi ih hno
      refine w_X6_isKept_2 hs _ _ (br_f (by rw [hG.1]; exact nI_ge hi (by omega)) ⟨vp_in_nI (by omega) (by decide), ?_⟩)
      rw [nI_clamp (by omega), hr.1 i hi, nI_1]
      refine br_c (fun c => ?_) (fun c => ih (lt_s hno c))
      rw [cif_t ⟨i, hi, c⟩] at hQ
      exact hQ
  exact K 0 (by omega) (fun k hk => absurd hk (by omega))
theorem c_nextToAsk (hs : SL h) (hG : GA I V) (hL : GL I V) {s : StT} (hr : RC I V s) {j : Nat} (hj : j < pkC V 1) (hQ : Q (some (.int (stN V s.2 j (pkC V 0)))) h I L) : (CT E mX6_nextToAsk d 0 0 [.ref (eB E + 65), .int (nI j)] h I L Q) := by
  have p0 := pk8 V 0
  have p1 := pk8 V 1
  refine w_X6_nextToAsk hs _ ?_
  have K : ∀ i, i ≤ pkC V 0 → (J E mX6_nextToAsk d Q 0 0 4 [some (.ref (eB E + 65)), some (.int (nI j)), some (.int (stN V s.2 j i)), some (.int (nI i)), none] [] h I L) := by
    refine dn (pkC V 0) ?_ ?_
    · exact w_X6_nextToAsk_4 hs _ _ _ (br_t (by rw [hG.1]; exact nI_le (Nat.le_refl _) (by omega)) hQ)
    · intro i hi ih
      have ei : nI i * 8 + nI j = nI (8 * i + j) := by rw [N8, pk_mul, nI_add, Nat.mul_comm]
      refine w_X6_nextToAsk_4 hs _ _ _ (br_f (by rw [hG.1]; exact nI_ge hi (by omega)) ?_)
      rw [ei, nI_clamp (show 8 * i + j < 2 ^ 31 by omega), (hG.2.2.2.2 i j hi hj).1, hr.2 i j hi hj, nI_1]
      rw [stN] at ih
      refine ⟨vp_in_nI (by omega) (by decide), ?_⟩
      rcases stN_c V s.2 j i with e | ⟨k, hk, e, hm, -⟩
      · refine ⟨fun _ _ q => absurd e q, ?_⟩
        rintro y9 rfl
        by_cases c1 : mpA V i j
        · rw [cif_t c1, if_neg (show ¬ (1 : Int32) = 0 by decide)]
          by_cases c2 : s.2 i j = true
          · rw [if_pos c2, if_neg (show ¬ (1 : Int32) = 0 by decide)]
            rw [cif_f (fun q => by rw [c2] at q; cases q.2.1)] at ih
            exact ih
          · rw [if_neg c2, if_pos rfl, if_pos e]
            rw [cif_t ⟨c1, by simpa using c2, Or.inl e⟩] at ih
            exact ih
        · rw [cif_f c1, if_pos rfl]
          rw [cif_f (fun q => c1 q.1)] at ih
          exact ih
      · have hne : ¬ stN V s.2 j i = (-1) := by rw [e]; exact m1_nI (by omega)
        have ek : nI k * 8 + nI j = nI (8 * k + j) := by rw [N8, pk_mul, nI_add, Nat.mul_comm]
        have ec : (stN V s.2 j i).toNatClampNeg = k := by rw [e, nI_clamp (by omega)]
        rw [ec] at ih
        refine ⟨fun _ _ _ => by rw [e, ek]; exact vp_in_nI (by omega) (by decide), ?_⟩
        rintro y9 rfl
        by_cases c1 : mpA V i j
        · rw [cif_t c1, if_neg (show ¬ (1 : Int32) = 0 by decide)]
          by_cases c2 : s.2 i j = true
          · rw [if_pos c2, if_neg (show ¬ (1 : Int32) = 0 by decide)]
            rw [cif_f (fun q => by rw [c2] at q; cases q.2.1)] at ih
            exact ih
          · rw [if_neg c2, if_pos rfl, if_neg hne, e, ek, nI_clamp (show 8 * k + j < 2 ^ 31 by omega), (hL i j hi hj c1).2, (hL k j (by omega) hj hm).2]
            rw [e] at ih
            by_cases c3 : lgA V i j ≤ lgA V k j
            · rw [if_pos c3]
              rw [cif_f (fun q => by rcases q.2.2 with q | q; exact m1_nI (by omega) q; exact q c3)] at ih
              exact ih
            · rw [if_neg c3]
              rw [cif_t ⟨c1, by simpa using c2, Or.inr c3⟩] at ih
              exact ih
        · rw [cif_f c1, if_pos rfl]
          rw [cif_f (fun q => c1 q.1)] at ih
          exact ih
  exact K 0 (by omega)
theorem c_hearOut (hs : SL h) (w : Wf V) (hG : GA I V) (hL : GL I V) {s : StT} (hok : stOK V s) (ht : ∀ i, i < pkC V 0 → I 76 i = s.1 i) (hmt : ∀ i j, i < pkC V 0 → s.1 i = nI j → j < pkC V 1 → mpA V i j) {i j : Nat} (hi : i < pkC V 0) (hj : j < pkC V 1) (hm : mpA V i j)
    (hQ : ∀ f : Nat → Int32, (∀ k, k < pkC V 0 → f k = if k = i then cif (stR V s.1 k j) (nI j) (s.1 k) else s.1 k) → Q none h (sA I 76 f) L) : (CT E mX6_hearOut d 0 0 [.ref (eB E + 65), .int (nI i), .int (nI j)] h I L Q) := by
  have n20 := w.P.n20
  have p0 := pk8 V 0
  have p1 := pk8 V 1
  obtain ⟨b1, -, -⟩ := pk_ok hi
  have ei : nI i * 8 + nI j = nI (8 * i + j) := by rw [N8, pk_mul, nI_add, Nat.mul_comm]
  have yes : stR V s.1 i j → Q none h (uI I 76 i (nI j)) L := fun c => by
    rw [uI_s]
    refine hQ _ (fun k hk => ?_)
    by_cases e : k = i
    · subst e; rw [upd_same', if_pos rfl, cif_t c]
    · rw [upd_ne' e, if_neg e]; exact ht k hk
  have no : ¬ stR V s.1 i j → Q none h I L := fun c => by
    have := hQ (I 76) (fun k hk => by
      by_cases e : k = i
      · subst e; rw [if_pos rfl, cif_f c]; exact ht k hk
      · rw [if_neg e]; exact ht k hk)
    rw [sA_id] at this
    exact this
  refine w_X6_hearOut hs _ _ ⟨vp_in_nI (by omega) (by decide), ?_⟩
  rw [nI_clamp (show i < 2 ^ 31 by omega), ht i hi]
  rintro y2 rfl
  rcases hok.1 i hi with e | ⟨k, hk, e⟩
  · exact br_t e (yes (Or.inl e))
  · have hne : ¬ s.1 i = (-1) := by rw [e]; exact m1_nI (by omega)
    have ek : nI i * 8 + nI k = nI (8 * i + k) := by rw [N8, pk_mul, nI_add, Nat.mul_comm]
    have ec : (s.1 i).toNatClampNeg = k := by rw [e, nI_clamp (by omega)]
    have hmk := hmt i k hi e hk
    refine br_f hne ?_
    rw [e, ei, ek, nI_clamp (show 8 * i + j < 2 ^ 31 by omega), nI_clamp (show 8 * i + k < 2 ^ 31 by omega), (hL i j hi hj hm).1, (hL i k hi hk hmk).1]
    refine ⟨vp_in_nI (by omega) (by decide), vp_in_nI (by omega) (by decide), ?_⟩
    rintro y6 rfl
    have l1 := lkA_b w (p := pkI V 0 i) (o := pkI V 1 j) (by omega)
    have l2 := lkA_b w (p := pkI V 0 i) (o := pkI V 1 k) (by omega)
    have l1 : -159984 ≤ (lbA V i j).toInt ∧ (lbA V i j).toInt ≤ 159984 := l1
    have l2 : -159984 ≤ (lbA V i k).toInt ∧ (lbA V i k).toInt ≤ 159984 := l2
    have ed : (lbA V i j - lbA V i k).toInt = (lbA V i j).toInt - (lbA V i k).toInt := fb_subI (by omega) (by omega)
    have z0 : (0 : Int32).toInt = 0 := by decide
    have iffR : stR V s.1 i j ↔ (lbA V i k < lbA V i j ∨ (lbA V i j = lbA V i k ∧ ¬ nI k ≤ nI j)) := by
      unfold stR
      rw [ec, e]
      exact ⟨fun q => q.resolve_left (m1_nI (by omega)), fun q => Or.inr q⟩
    refine br_c (fun c1 => yes (iffR.mpr (Or.inl ?_))) (fun c1 => br_c (fun c2 => br_c (fun c3 => no fun q => ?_) (fun c3 => yes (iffR.mpr (Or.inr ⟨?_, c3⟩)))) (fun c2 => no fun q => ?_))
    · rw [fa_lt, ed, z0] at c1; rw [fa_lt]; omega
    · rw [fa_lt, ed, z0] at c1
      rcases iffR.mp q with q | q
      · rw [fa_lt] at q; omega
      · exact q.2 c3
    · rw [fa_eq, ed, z0] at c2; rw [fa_eq]; omega
    · rw [fa_lt, ed, z0] at c1
      rw [fa_eq, ed, z0] at c2
      rcases iffR.mp q with q | q
      · rw [fa_lt] at q; omega
      · have := (fa_eq _ _).mp q.1; omega
/-- in a state that asking made, matched ones may wed -/
def stM (V : mI) (s : StT) : Prop := ∀ i j, i < pkC V 0 → s.1 i = nI j → j < pkC V 1 → mpA V i j
theorem stS_M {s : StT} {j : Nat} (hj : j < pkC V 1) (h : stM V s) : stM V (stS V s j) := by
  unfold stS
  by_cases c : stK V s j
  · rw [cif_t c]
    obtain ⟨w1, w2, w3, w4⟩ := stW_ok c
    have p1 := pk8 V 1
    intro i k hi he hk
    have he : (if i = stW V s j then cif (stR V s.1 i j) (nI j) (s.1 i) else s.1 i) = nI k := he
    by_cases e : i = stW V s j
    · rw [if_pos e] at he
      by_cases c2 : stR V s.1 i j
      · rw [cif_t c2, nI_eq (by omega) (by omega)] at he
        subst he; rw [e]; exact w3
      · rw [cif_f c2] at he; exact h i k hi he hk
    · rw [if_neg e] at he; exact h i k hi he hk
  · rw [cif_f c]; exact h
theorem stP_M {s : StT} (h : stM V s) : ∀ j, j ≤ pkC V 1 → stM V (stP V s j) := by
  intro j
  induction j with
  | zero => intro _; exact h
  | succ j ih => intro hj; exact stS_M (by omega) (ih (by omega))
theorem stI_M : ∀ k, stM V (stI V k) := by
  intro k
  induction k with
  | zero => intro i j _ he _; exact absurd he.symm (m1_nI (by have := pk8 V 1; omega))
  | succ k ih => exact stP_M ih _ (Nat.le_refl _)
theorem c_askAround (hs : SL h) (w : Wf V) (hG : GA I V) (hL : GL I V) {s : StT} (hok : stOK V s) (hM : stM V s) (hr : RC I V s) (hQ : ∀ (r : Int32) (f g : Nat → Int32), RC (two I 74 f 76 g) V (stP V s (pkC V 1)) → ((r = 0 ∧ stQ V s (pkC V 1)) ∨ r = 1) → Q (some (.int r)) h (two I 74 f 76 g) L) : (CT E mX6_askAround (d + 1) 0 0 [.ref (eB E + 65)] h I L Q) := by
  have p0 := pk8 V 0
  have p1 := pk8 V 1
  refine w_X6_askAround hs ?_
  have K : ∀ j, j ≤ pkC V 1 → ∀ (r : Int32) (f g : Nat → Int32), RC (two I 74 f 76 g) V (stP V s j) → ((r = 0 ∧ stQ V s j) ∨ r = 1) → (J E mX6_askAround (d + 1) Q 0 0 4 [some (.ref (eB E + 65)), some (.int r), some (.int (nI j)), none] [] h (two I 74 f 76 g) L) := by
    refine dn (pkC V 1) ?_ ?_
    · intro r f g hrc hq
      refine w_X6_askAround_4 hs _ _ (br_t (by rw [two_n (by decide) (by decide), hG.2.1]; exact nI_le (Nat.le_refl _) (by omega)) ⟨?_, hQ r f g hrc hq⟩)
      rcases hq with ⟨e, -⟩ | e
      · exact Or.inl e
      · exact Or.inr e
    · intro j hj ih r f g hrc hq
      have hok' := stP_ok hok j (by omega)
      have hM' := stP_M hM j (by omega)
      have gA : GA (two I 74 f 76 g) V := hG.cg (fun a h1 h2 => two_n (by omega) (by omega))
      have gL : GL (two I 74 f 76 g) V := by unfold GL; rw [two_n (by decide) (by decide), two_n (by decide) (by decide)]; exact hL
      refine w_X6_askAround_4 hs _ _ (br_f (by rw [two_n (by decide) (by decide), hG.2.1]; exact nI_ge hj (by omega)) ?_)
      refine c_isKept hs gA hrc (qi_i ?_)
      rw [nI_1]
      have skip : ¬ stK V (stP V s j) j → (J E mX6_askAround (d + 1) Q 0 0 4 [some (.ref (eB E + 65)), some (.int r), some (.int (nI (j + 1))), none] [] h (two I 74 f 76 g) L) := fun hn => by
        refine ih r f g ?_ ?_
        · rw [stP, stS, cif_f hn]; exact hrc
        · rcases hq with ⟨e, hq⟩ | e
          · refine Or.inl ⟨e, fun k hk => ?_⟩
            by_cases ek : k = j
            · rw [ek]; exact hn
            · exact hq k (by omega)
          · exact Or.inr e
      by_cases ck : ∃ i, i < pkC V 0 ∧ (stP V s j).1 i = nI j
      · rw [cif_t ck]
        exact br_f (by decide) (skip fun e => e.1 ck)
      · rw [cif_f ck]
        refine br_t rfl ?_
        refine c_nextToAsk hs gA gL hrc hj (qi_i ?_)
        by_cases cn : stN V (stP V s j).2 j (pkC V 0) = (-1)
        · exact br_t cn (skip fun e => e.2 cn)
        · have hk : stK V (stP V s j) j := ⟨ck, cn⟩
          obtain ⟨w1, w2, w3, w4⟩ := stW_ok hk
          refine br_f cn ?_
          have ei : nI (stW V (stP V s j) j) * 8 + nI j = nI (8 * stW V (stP V s j) j + j) := by rw [N8, pk_mul, nI_add, Nat.mul_comm]
          rw [w2, ei, nI_clamp (show 8 * stW V (stP V s j) j + j < 2 ^ 31 by omega), uI_two1]
          refine ⟨vp_in_nI (by omega) (by decide), ?_⟩
          have gA2 : GA (two I 74 (upd f (8 * stW V (stP V s j) j + j) 1) 76 g) V := hG.cg (fun a h1 h2 => two_n (by omega) (by omega))
          have gL2 : GL (two I 74 (upd f (8 * stW V (stP V s j) j + j) 1) 76 g) V := by unfold GL; rw [two_n (by decide) (by decide), two_n (by decide) (by decide)]; exact hL
          refine c_hearOut hs w gA2 gL2 hok' (fun i hi => by rw [two_2 (by decide)]; have := hrc.1 i hi; rwa [two_2 (by decide)] at this) hM' w1 hj w3 (fun g2 hg2 => qv_i ?_)
          have e2 : sA (two I 74 (upd f (8 * stW V (stP V s j) j + j) 1) 76 g) 76 g2 = two I 74 (upd f (8 * stW V (stP V s j) j + j) 1) 76 g2 := by
            funext a
            by_cases h1 : a = 76
            · subst h1; rw [sA_at, two_2 (by decide)]
            · rw [sA_ne h1]
              by_cases h2 : a = 74
              · subst h2; rw [two_1, two_1]
              · rw [two_n h2 h1, two_n h2 h1]
          rw [e2]
          refine ih 1 _ _ ⟨fun i hi => ?_, fun i' j' hi' hj' => ?_⟩ (Or.inr rfl)
          · rw [two_2 (by decide), hg2 i hi, stP, stS, cif_t hk]; rfl
          · rw [two_1, stP, stS, cif_t hk]
            have h0 := hrc.2 i' j' hi' hj'
            rw [two_1] at h0
            show upd f _ 1 (8 * i' + j') = if (if i' = stW V (stP V s j) j ∧ j' = j then true else (stP V s j).2 i' j') = true then 1 else 0
            by_cases c : i' = stW V (stP V s j) j ∧ j' = j
            · rw [if_pos c, if_pos rfl, c.1, c.2, upd_same']
            · rw [if_neg c, upd_ne' (by omega)]; exact h0
  have e : two I 74 (I 74) 76 (I 76) = I := two_id
  have := K 0 (by omega) 0 (I 74) (I 76) (by rw [e]; exact hr) (Or.inl ⟨rfl, fun j hj => absurd hj (by omega)⟩)
  rw [e] at this
  exact this
theorem c_settleStable (hs : SL h) (w : Wf V) (hG : GA I V) (hL : GL I V) (hQ : ∀ I', (∀ a, a ≠ 74 → a ≠ 76 → I' a = I a) → (∀ i, i < pkC V 0 → I' 76 i = stF V i) → Q none h I' L) : (CT E mX6_settleStable (d + 2) 0 0 [.ref (eB E + 65)] h I L Q) := by
  have p0 := pk8 V 0
  have p1 := pk8 V 1
  refine w_X6_settleStable hs ?_
  refine c_fillA hs (lt76 hs) (kk76 hs) (by decide) (fun f76 h1 _ => qv_i ?_)
  have K36 : ∀ n k, n + k = 65 → ∀ (r : Int32) (I1 : mI), (∀ a, a ≠ 74 → a ≠ 76 → I1 a = I a) → RC I1 V (stI V k) → ((r = 0 ∧ stI V k = stI V 65) ∨ r = 1) → (J E mX6_settleStable (d + 2) Q 0 0 36 [some (.ref (eB E + 65)), some (.int r), some (.int (nI k))] [] h I1 L) := by
    intro n
    induction n with
    | zero =>
      intro k hk r I1 f1 hr hq
      have : k = 65 := by omega
      subst this
      exact w_X6_settleStable_36 hs _ _ (br_t (by decide) (hQ I1 f1 hr.1))
    | succ n ih =>
      intro k hk r I1 f1 hr hq
      refine w_X6_settleStable_36 hs _ _ (br_f (nI_nlt (show k ≤ 64 by omega) (by decide)) ?_)
      rcases hq with ⟨rfl, e⟩ | rfl
      · refine br_t rfl (hQ I1 f1 (fun i hi => ?_))
        rw [hr.1 i hi, e]; rfl
      · refine br_f (by decide) ?_
        have gA : GA I1 V := hG.cg (fun a h1 h2 => f1 a (by omega) (by omega))
        have gL : GL I1 V := by unfold GL; rw [f1 72 (by decide) (by decide), f1 73 (by decide) (by decide)]; exact hL
        refine c_askAround hs w gA gL (stI_ok V k) (stI_M k) hr (fun r' f g hrc hq' => qi_i ?_)
        rw [nI_1]
        refine ih (k + 1) (by omega) r' _ (fun a h1 h2 => by rw [two_n h1 h2]; exact f1 a h1 h2) hrc ?_
        rcases hq' with ⟨e, hq'⟩ | e
        · refine Or.inl ⟨e, ?_⟩
          have e1 := stI_fix hq' 1
          have e2 := stI_fix hq' (65 - k)
          rw [show k + (65 - k) = 65 by omega] at e2
          rw [e1, e2]
        · exact Or.inr e
  have K10 : ∀ k, k ≤ 64 → ∀ f, (∀ i, i < k → f i = 0) → (J E mX6_settleStable (d + 2) Q 0 0 10 [some (.ref (eB E + 65)), some (.int (nI k)), none] [] h (two I 74 f 76 f76) L) := by
    refine dn 64 ?_ ?_
    · intro f hf
      refine w_X6_settleStable_10 hs _ (br_t (by decide) ?_)
      refine K36 65 0 (by omega) 1 _ (fun a h1 h2 => two_n h1 h2) ⟨fun i hi => ?_, fun i j hi hj => ?_⟩ (Or.inr rfl)
      · rw [two_2 (by decide)]; exact h1 i (by omega)
      · rw [two_1, hf _ (by omega)]; rfl
    · intro k hk ih f hf
      refine w_X6_settleStable_10 hs _ (br_f (nI_ge hk (by decide)) ⟨vp_in_nI (by omega) (by decide), ?_⟩)
      rw [nI_clamp (by omega), uI_two1, nI_1]
      refine ih _ (fun i hi => ?_)
      by_cases e : i = k
      · rw [e, upd_same']
      · rw [upd_ne' e]; exact hf i (by omega)
  have := K10 0 (by omega) (I 74) (fun i hi => absurd hi (by omega))
  have e : two I 74 (I 74) 76 f76 = sA I 76 f76 := by
    funext a
    by_cases h1 : a = 74
    · subst h1; rw [two_1, sA_ne (by decide)]
    · by_cases h2 : a = 76
      · subst h2; rw [two_2 (by decide), sA_at]
      · rw [two_n h1 h2, sA_ne h2]
  rw [e] at this
  exact this
noncomputable def stbA (V : mI) (x : Int32) : Int32 := cif (inN x (cP V)) (wwA V (stF V) x) (-1)
theorem st_tk (V : mI) : tkOK V (stF V) := (stI_ok V 65).1
theorem c_stable (q : CQ h I V) {x : Int32} (hQ : ∀ I', FrC I I' → Kc I' V → Q (some (.int (stbA V x))) h I' L) : (CT E mX11_stable (d + 7) 0 0 [.ref (eB E + 0), .int x] h I L Q) := by
  have n20 := q.w.P.n20
  have hr : (¬ x < 0 ∧ ¬ I 7 0 ≤ x) ↔ inN x (cP V) := by rw [bP_n q.b, q.w.P.n]; exact in_rng x (by omega)
  refine w_X11_stable q.s _ (br_c (fun c => ?_) (fun c => ?_))
  · refine c_gather q (fun I1 f1 k1 g1 => qv_i ?_)
    have q1 : CQ h I1 V := q.fr (fun a ha => f1 a (by omega)) k1
    refine c_askLikings q1 g1 (fun I2 f2 k2 l2 => qv_i ?_)
    have g2 : GA I2 V := g1.cg (fun a h1 h2 => f2 a (by omega))
    refine c_settleStable q.s q.w g2 l2 (fun I3 f3 t3 => qv_i ?_)
    have fin := hQ I3 (fun a ha => by rw [f3 a (by omega) (by omega), f2 a (by omega)]; exact f1 a (by omega)) (k2.cg (f3 57 (by decide) (by decide)) (f3 58 (by decide) (by decide)))
    have g3 : GA I3 V := g2.cg (fun a h1 h2 => f3 a (by omega) (by omega))
    unfold stbA at fin
    rw [cif_t (hr.mp c)] at fin
    exact c_partnerOf q.s q.w g3 t3 (st_tk V) (qi_i fin)
  · have fin := hQ I FrC.rf q.k
    unfold stbA at fin
    rw [cif_f (fun e => c (hr.mpr e))] at fin
    exact fin
end ST
