/-! the component's ring -/
abbrev T6 : Type := Nat × Nat × Nat × Nat × Nat × Nat
def BO6 (V : mI) (m : Nat) (T : T6) : Prop := BO V (fun a b c d => e4 a b c d < m) T.1 T.2.1 T.2.2.1 T.2.2.2.1 T.2.2.2.2.1 T.2.2.2.2.2
def RP6 (I : mI) (T : T6) : Prop := I 77 7 = nI T.2.2.2.2.1 ∧ I 77 8 = nI T.2.2.2.2.2 ∧ (T.2.2.2.2.1 ≠ 0 → ∀ k, k < T.2.2.2.2.1 → I 82 k = nI (rwK T.1 T.2.1 T.2.2.1 T.2.2.2.1 k))
theorem BO_n {V : mI} {P : Nat → Nat → Nat → Nat → Prop} {a b c d n s : Nat} (w : Wf V) (h : BO V P a b c d n s) : n ≤ 4 ∧ s < 639940 ∧ (n ≠ 0 → 2 ≤ n) := by
  rcases h with ⟨h1, h2, -⟩ | ⟨h1, -, h3, h4, -⟩
  · exact ⟨by omega, by omega, fun e => absurd h1 e⟩
  · have := n4_pos c d
    have := s4_b w h1
    omega
def TBL (I : mI) (s : CqT) : Prop := ∀ x, x < 64 → (I 78 x = (-1) ↔ s.1 x = (-1)) ∧ (¬ s.1 x = (-1) → I 78 x = s.2.1 x ∧ I 79 x = s.2.2 x ∧ I 80 x = s.1 x)
def XF (I I' : mI) : Prop := ∀ a, a ≠ 77 → a ≠ 81 → a ≠ 82 → I' a = I a
section RC6
variable {E : Envt} {d : Nat} {Q : Pst} {h : mS} {I V : mI} {L : mL}
theorem c_offer (q : CQ h I V) {i j : Nat} (hi : i < pkC V 0) (hj : j < pkC V 1) (hm : mpA V i j) {s : CqT} (hs : cqOK s) (ht : TBL I s) (hQ : ∀ I', (∀ a, a < 78 ∨ 80 < a → I' a = I a) → TBL I' (cqS V i j s) → Q none h I' L) : (CT E mX9_offer d 0 0 [.ref (eB E + 77), .int (nI (pkI V 0 i)), .int (nI (pkI V 1 j)), .int (gfA V i j)] h I L Q) := by
  have n20 := q.w.P.n20
  obtain ⟨b1, -, -⟩ := pk_ok hi
  obtain ⟨g1, -, -⟩ := pk_ok hj
  obtain ⟨hb8, ehb⟩ := hN_ok q.w (p := pkI V 0 i) (by omega)
  obtain ⟨hg8, ehg⟩ := hN_ok q.w (p := pkI V 1 j) (by omega)
  obtain ⟨eg, lg⟩ := gv_ok q.w hi hj
  have ey : V 96 (pkI V 0 i) * 8 + V 96 (pkI V 1 j) = nI (cqX V i j) := by rw [ehb, ehg, N8, pk_mul, nI_add, Nat.mul_comm]; rfl
  have hx := cqX_lt q.w hi hj
  refine w_X9_offer q.s _ _ _ ⟨vp_in_nI (by omega) (by decide), vp_in_nI (by omega) (by decide), ?_⟩
  rw [nI_clamp (show pkI V 0 i < 2 ^ 31 by omega), nI_clamp (show pkI V 1 j < 2 ^ 31 by omega), bP_hou q.b _ (show pkI V 0 i < 20 by omega), bP_hou q.b _ (show pkI V 1 j < 20 by omega), ey]
  rintro y3 rfl
  rw [nI_clamp (show cqX V i j < 2 ^ 31 by omega)]
  refine ⟨vp_in_nI (by omega) (by decide), ?_⟩
  have yes : s.1 (cqX V i j) < gfA V i j → (J E mX9_offer d Q 0 0 52 [some (.ref (eB E + 77)), some (.int (nI (pkI V 0 i))), some (.int (nI (pkI V 1 j))), some (.int (gfA V i j)), some (.int (nI (cqX V i j)))] [] h I L) := by
    intro hlt
    refine w_X9_offer_52 q.s _ _ _ _ ⟨vp_in_nI (by omega) (by decide), ?_⟩
    rw [nI_clamp (show cqX V i j < 2 ^ 31 by omega)]
    refine hQ _ (fun a ha => by rw [uI_ne (by omega), uI_ne (by omega), uI_ne (by omega)]) (fun x hx => ?_)
    unfold cqS
    rw [cif_t ⟨hm, hlt⟩]
    simp (disch := decide) only [uI_ne]
    by_cases e : x = cqX V i j
    · subst e
      simp only [uI_eq, upd_same']
      exact ⟨⟨fun e => absurd e (m1_nI (by omega)), fun e => by rw [eg] at e; exact absurd e (m1_nI (by omega))⟩, fun _ => ⟨trivial, trivial, trivial⟩⟩
    · simp only [uI_nj e, upd_ne' e]
      exact ht x hx
  have no : ¬ s.1 (cqX V i j) < gfA V i j → Q none h I L := fun hn => by
    refine hQ I (fun _ _ => rfl) ?_
    unfold cqS
    rw [cif_f (fun e => hn e.2)]
    exact ht
  obtain ⟨t1, t2⟩ := ht _ hx
  by_cases c : s.1 (cqX V i j) = (-1)
  · refine br_t (t1.mpr c) (yes ?_)
    rw [c, eg, fa_lt, nI_toInt (by omega)]
    simp
    omega
  · obtain ⟨e1, e2, e3⟩ := t2 c
    refine br_f (fun e => c (t1.mp e)) ?_
    rw [e3]
    refine br_c (fun c2 => no fun e => ?_) (fun c2 => yes (fa_of_nle c2))
    rw [fa_lt] at e; rw [fa_le] at c2; omega
theorem c_consider (hs : SL h) (w : Wf V) {T : T6} {len p A B C D : Nat} (hr : RP6 I T) (hb : BO6 V p T) (h4 : r4 V A B C D) (he : e4 A B C D = p) (hn : n4 C D = len) (ht : ∀ k, k < len → I 81 k = nI (rwK A B C D k))
    (hQ : ∀ I' T', (∀ a, a ≠ 77 → a ≠ 82 → I' a = I a) → RP6 I' T' → BO6 V (p + 1) T' → Q none h I' L) : (CT E mX9_consider (d + 2) 0 0 [.ref (eB E + 77), .int (nI len), .int (nI (s4 V A B C D))] h I L Q) := by
  have sb := s4_b w h4
  have nb := n4_pos C D
  have hTb := BO_n w hb
  have same : ∀ a b c d, r4 V a b c d → (e4 a b c d < p + 1) → e4 a b c d < p ∨ (a = A ∧ b = B ∧ c = C ∧ d = D) := by
    intro a b c d hr' hlt
    by_cases hl : e4 a b c d < p
    · exact Or.inl hl
    · right
      have ee : e4 a b c d = e4 A B C D := by omega
      have h8 := w.H.n8
      unfold e4 at ee
      have q1 := hr'.2.2.2.1
      have q2 := hr'.2.2.2.2.1
      have q3 := hr'.2.2.1
      have q4 := h4.2.2.2.1
      have q5 := h4.2.2.2.2.1
      have q6 := h4.2.2.1
      omega
  have take : (T.2.2.2.2.1 = 0 ∨ T.2.2.2.2.2 < s4 V A B C D ∨ (T.2.2.2.2.2 = s4 V A B C D ∧ (n4 C D < T.2.2.2.2.1 ∨ (n4 C D = T.2.2.2.2.1 ∧ e4 A B C D < e4 T.1 T.2.1 T.2.2.1 T.2.2.2.1)))) →
      (CT E mX11_copy (d + 1) 0 0 [.ref (eB E + 81), .ref (eB E + 82)] h (uI (uI I 77 7 (nI len)) 77 8 (nI (s4 V A B C D))) L (qv h L fun I2 => Q none h I2 L)) := by
    intro hbet
    refine c_copyA hs (lt81 hs) (kk81 hs) (lt82 hs) (kk82 hs) (by decide) (by decide) (fun f h1 h2 => qv_i ?_)
    refine hQ _ (A, B, C, D, n4 C D, s4 V A B C D) (fun a h1 h2 => by rw [sA_ne h2, uI_ne h1, uI_ne h1]) ⟨?_, ?_, fun _ k hk => ?_⟩ ?_
    · show sA _ 82 f 77 7 = nI (n4 C D)
      rw [sA_ne (by decide), uI_nj (by decide), uI_eq, hn]
    · show sA _ 82 f 77 8 = nI (s4 V A B C D)
      rw [sA_ne (by decide), uI_eq]
    · show sA _ 82 f 82 k = nI (rwK A B C D k)
      have hk : k < n4 C D := hk
      rw [sA_at, h1 k (by omega) (by omega), uI_ne (by decide), uI_ne (by decide)]
      exact ht k (by omega)
    · exact BO_new hb h4 (by show e4 A B C D < p + 1; omega) same hbet
  have keep : T.2.2.2.2.1 ≠ 0 → (s4 V A B C D < T.2.2.2.2.2 ∨ (s4 V A B C D = T.2.2.2.2.2 ∧ T.2.2.2.2.1 ≤ n4 C D)) → Q none h I L := by
    intro h0 hbet
    refine hQ I T (fun _ _ _ => rfl) hr (BO_old (a1 := A) (b1 := B) (c1 := C) (d1 := D) hb h0 (fun a b c d _ hp => by have hp : e4 a b c d < p := hp; show e4 a b c d < p + 1; omega) same ?_)
    have hlt : e4 T.1 T.2.1 T.2.2.1 T.2.2.2.1 < p := by
      rcases hb with ⟨g1, -⟩ | ⟨-, g2, -⟩
      · exact absurd g1 h0
      · exact g2
    omega
  refine w_X9_consider hs _ _ ?_
  rw [hr.1, hr.2.1]
  by_cases c0 : T.2.2.2.2.1 = 0
  · exact br_t (by rw [c0]; rfl) (take (Or.inl c0))
  · refine br_f (nI_ne0 (by omega) (by omega)) ?_
    rw [nI_ltI (by omega) (by omega), nI_eq (by omega) (by omega), nI_leI (by omega) (by omega)]
    refine br_c (fun c1 => take (Or.inr (Or.inl c1))) (fun c1 => br_c (fun c2 => br_c (fun c3 => keep c0 (Or.inr ⟨c2, by omega⟩)) (fun c3 => take (Or.inr (Or.inr ⟨by omega, Or.inl (by omega)⟩)))) (fun c2 => keep c0 (Or.inl (by omega))))
theorem c_isOnTrial (hs : SL h) {len hh : Nat} {t : Nat → Nat} (hl : len ≤ 4) (hh8 : hh < 2 ^ 31) (ht : ∀ k, k < len → I 81 k = nI (t k) ∧ t k < 8) (hQ : Q (some (.int (cif (∃ k, k < len ∧ t k = hh) 1 0))) h I L) : (CT E mX9_isOnTrial d 0 0 [.ref (eB E + 77), .int (nI hh), .int (nI len)] h I L Q) := by
  refine w_X9_isOnTrial hs _ _ ?_
  have K : ∀ k, k ≤ len → (∀ j, j < k → ¬ t j = hh) → (J E mX9_isOnTrial d Q 0 0 2 [some (.ref (eB E + 77)), some (.int (nI hh)), some (.int (nI len)), some (.int (nI k))] [] h I L) := by
    refine dn len ?_ ?_
    · intro hno
      rw [cif_f (by rintro ⟨k, h1, h2⟩; exact hno k h1 h2)] at hQ
      exact w_X9_isOnTrial_2 hs _ _ _ (br_t (nI_le (Nat.le_refl _) (by omega)) hQ)
    · intro k hk ih hno
      obtain ⟨e1, e2⟩ := ht k hk
      refine w_X9_isOnTrial_2 hs _ _ _ (br_f (nI_ge hk (by omega)) ⟨vp_in_nI (by omega) (by decide), ?_⟩)
      rw [nI_clamp (by omega), e1, nI_1, nI_eq (by omega) hh8]
      refine br_c (fun c => ?_) (fun c => ih (lt_s hno c))
      rw [cif_t ⟨k, hk, c⟩] at hQ
      exact hQ
  exact K 0 (by omega) (fun j hj => absurd hj (by omega))
/-- a call of extend: the state it finds and what it leaves -/
def XST (Ib : mI) (len : Nat) (t : Nat → Nat) (V : mI) (m : Nat) (I1 : mI) (T : T6) : Prop := XF Ib I1 ∧ (∀ k, k < len → I1 81 k = nI (t k)) ∧ RP6 I1 T ∧ BO6 V m T
def XCALL (E : Envt) (h : mS) (L : mL) (Ib : mI) (V : mI) (d len : Nat) (t : Nat → Nat) (so m m' : Nat) : Prop :=
  ∀ (I1 : mI) (T : T6) (Q : Pst), XST Ib len t V m I1 T → (∀ I2 T2, XST Ib len t V m' I2 T2 → Q none h I2 L) → CT E mX9_extend d 0 0 [.ref (eB E + 77), .int (nI len), .int (nI so)] h I1 L Q
theorem BO6_cg {m m' : Nat} {T : T6} (hb : BO6 V m T) (hp : ∀ a b c d, r4 V a b c d → (e4 a b c d < m' ↔ e4 a b c d < m)) : BO6 V m' T := BO_cg hb hp
theorem c_ext (hs : SL h) (w : Wf V) {Ib : mI} (hT : TBL Ib (cqA V)) (hH : Ib 2 0 = nI (cH V)) {len u p m' so A B C D : Nat} {t : Nat → Nat} (hl1 : 1 ≤ len) (hl4 : len ≤ 4) (ht8 : ∀ k, k < len → t k < 8) (hso : so < 639940)
    (hrow : ∀ k, k < len → t k = rwK A B C D k)
    (hcl : 2 ≤ len → lk4 V (t (len - 1) + 1) (t 0 + 1) → r4 V A B C D ∧ e4 A B C D = p ∧ n4 C D = len ∧ s4 V A B C D = so + gg V (t (len - 1) + 1) (t 0 + 1))
    (hnc : ¬ (2 ≤ len ∧ lk4 V (t (len - 1) + 1) (t 0 + 1)) → ∀ a b c d, r4 V a b c d → (e4 a b c d < p + 1 ↔ e4 a b c d < p))
    (hlow : len < 4 → ∀ a b c d, r4 V a b c d → (e4 a b c d < p + (t 0 + 2) * u ↔ e4 a b c d < p + 1))
    (hskip : len < 4 → ∀ x, t 0 < x → x < cH V → (¬ lk4 V (t (len - 1) + 1) (x + 1) ∨ ∃ k, k < len ∧ t k = x) → ∀ a b c d, r4 V a b c d → (e4 a b c d < p + (x + 2) * u ↔ e4 a b c d < p + (x + 1) * u))
    (hhigh : len < 4 → ∀ a b c d, r4 V a b c d → (e4 a b c d < m' ↔ e4 a b c d < p + (cH V + 1) * u))
    (hend : len = 4 → m' = p + 1) (htn : len < 4 → t 0 < cH V)
    (hchild : len < 4 → ∀ x, t 0 < x → x < cH V → lk4 V (t (len - 1) + 1) (x + 1) → (∀ k, k < len → t k ≠ x) → XCALL E h L Ib V (d + 2) (len + 1) (fun k => if k = len then x else t k) (so + gg V (t (len - 1) + 1) (x + 1)) (p + (x + 1) * u) (p + (x + 2) * u)) :
    XCALL E h L Ib V (d + 3) len t so p m' := by
  intro I1 T Q hX hQ
  have h8 := w.H.n8
  have t0 := ht8 0 (by omega)
  have tl := ht8 (len - 1) (by omega)
  have elen : nI len - 1 = nI (len - 1) := by rw [show (1 : Int32) = nI 1 from rfl, pk_sub (by omega)]
  have tb : ∀ I2, XF Ib I2 → TBL I2 (cqA V) := fun I2 f => by
    unfold TBL
    rw [f 78 (by decide) (by decide) (by decide), f 79 (by decide) (by decide) (by decide), f 80 (by decide) (by decide) (by decide)]
    exact hT
  have lnk : ∀ I2, XF Ib I2 → ∀ x y, x < 8 → y < 8 → (I2 78 (8 * x + y) = (-1) ↔ ¬ lk4 V (x + 1) (y + 1)) ∧ (lk4 V (x + 1) (y + 1) → I2 80 (8 * x + y) = nI (gg V (x + 1) (y + 1)) ∧ gg V (x + 1) (y + 1) < 159985) := fun I2 f x y hx hy => by
    obtain ⟨e1, e2⟩ := tb I2 f (8 * x + y) (by omega)
    have ec : (cqA V).1 (8 * x + y) = cG V (8 * (x + 1 - 1) + (y + 1 - 1)) := rfl
    refine ⟨by rw [e1, ec]; unfold lk4; exact Classical.not_not.symm, fun hl => ?_⟩
    obtain ⟨q1, q2⟩ := gg_ok w hl
    rw [(e2 (by rw [ec]; exact hl)).2.2, ec]
    exact ⟨q1, q2⟩
  have eli : ∀ y, nI (t (len - 1)) * 8 + nI y = nI (8 * t (len - 1) + y) := fun y => by rw [N8, pk_mul, nI_add, Nat.mul_comm]
  -- behind the closing
  have after : ∀ I2 T2, XST Ib len t V (p + 1) I2 T2 → ((nI len < 4 → J E mX9_extend (d + 3) Q 0 0 68 [some (.ref (eB E + 77)), some (.int (nI len)), some (.int (nI so)), some (.int (nI (t (len - 1)))), some (.int (nI (8 * t (len - 1) + t 0))), some (.int (I2 81 0 + 1)), none] [] h I2 L) ∧ (¬ nI len < 4 → Q none h I2 L)) := by
    intro I2 T2 hX2
    refine br_c (fun c4 => ?_) (fun c4 => ?_)
    · have c4 : len < 4 := by rw [N4, nI_ltI (by omega) (by omega)] at c4; exact c4
      rw [hX2.2.1 0 (by omega), nI_1]
      have K : ∀ x, t 0 + 1 ≤ x → x ≤ cH V → ∀ I2 T2, XST Ib len t V (p + (x + 1) * u) I2 T2 → (J E mX9_extend (d + 3) Q 0 0 68 [some (.ref (eB E + 77)), some (.int (nI len)), some (.int (nI so)), some (.int (nI (t (len - 1)))), some (.int (nI (8 * t (len - 1) + t 0))), some (.int (nI x)), none] [] h I2 L) := by
        intro x hx1 hx2
        have key : ∀ n x, n + x = cH V → t 0 + 1 ≤ x → ∀ I2 T2, XST Ib len t V (p + (x + 1) * u) I2 T2 → (J E mX9_extend (d + 3) Q 0 0 68 [some (.ref (eB E + 77)), some (.int (nI len)), some (.int (nI so)), some (.int (nI (t (len - 1)))), some (.int (nI (8 * t (len - 1) + t 0))), some (.int (nI x)), none] [] h I2 L) := by
          intro n
          induction n with
          | zero =>
            intro x hx hx1 I2 T2 hX2
            have : x = cH V := by omega
            subst this
            refine w_X9_extend_68 hs _ _ _ _ _ (br_t ?_ (hQ I2 T2 ⟨hX2.1, hX2.2.1, hX2.2.2.1, BO6_cg hX2.2.2.2 (hhigh c4)⟩))
            rw [hX2.1 2 (by decide) (by decide) (by decide), hH]; exact nI_le (Nat.le_refl _) (by omega)
          | succ n ih =>
            intro x hx hx1 I2 T2 hX2
            refine w_X9_extend_68 hs _ _ _ _ _ (br_f (by rw [hX2.1 2 (by decide) (by decide) (by decide), hH]; exact nI_ge (by omega) (by omega)) ?_)
            rw [eli, nI_clamp (show 8 * t (len - 1) + x < 2 ^ 31 by omega), nI_1 x]
            obtain ⟨l1, l2⟩ := lnk I2 hX2.1 (t (len - 1)) x tl (by omega)
            have skip : (¬ lk4 V (t (len - 1) + 1) (x + 1) ∨ ∃ k, k < len ∧ t k = x) → (J E mX9_extend (d + 3) Q 0 0 68 [some (.ref (eB E + 77)), some (.int (nI len)), some (.int (nI so)), some (.int (nI (t (len - 1)))), some (.int (nI (8 * t (len - 1) + t 0))), some (.int (nI (x + 1))), none] [] h I2 L) := fun hsk =>
              ih (x + 1) (by omega) (by omega) I2 T2 ⟨hX2.1, hX2.2.1, hX2.2.2.1, BO6_cg hX2.2.2.2 (hskip c4 x (by omega) (by omega) hsk)⟩
            refine ⟨vp_in_nI (by omega) (by decide), ?_⟩
            by_cases cl : lk4 V (t (len - 1) + 1) (x + 1)
            · refine br_f (fun e => (l1.mp e) cl) ?_
              refine c_isOnTrial hs (by omega) (by omega) (fun k hk => ⟨hX2.2.1 k hk, ht8 k hk⟩) (qi_i ?_)
              by_cases co : ∃ k, k < len ∧ t k = x
              · rw [cif_t co]
                exact br_f (by decide) (skip (Or.inr co))
              · rw [cif_f co]
                refine br_t rfl ⟨vp_in_nI (by omega) (by decide), ?_⟩
                rw [nI_clamp (show len < 2 ^ 31 by omega), (l2 cl).1, nI_add, nI_1 len]
                refine hchild c4 x (by omega) (by omega) cl (fun k hk e => co ⟨k, hk, e⟩) _ T2 _ ⟨fun a h1 h2 h3 => by rw [uI_ne h2]; exact hX2.1 a h1 h2 h3, fun k hk => ?_, ?_, hX2.2.2.2⟩ (fun I3 T3 hX3 => qv_i ?_)
                · show uI I2 81 len (nI x) 81 k = nI (if k = len then x else t k)
                  by_cases e : k = len
                  · rw [e, uI_eq, if_pos rfl]
                  · rw [uI_nj e, if_neg e]; exact hX2.2.1 k (by omega)
                · unfold RP6
                  rw [uI_ne (by decide), uI_ne (by decide)]
                  exact hX2.2.2.1
                · refine ih (x + 1) (by omega) (by omega) I3 T3 ⟨hX3.1, fun k hk => ?_, hX3.2.2.1, hX3.2.2.2⟩
                  have := hX3.2.1 k (by omega)
                  dsimp only at this
                  rw [if_neg (by omega)] at this
                  exact this
            · exact br_t (l1.mpr cl) (skip (Or.inl cl))
        exact key (cH V - x) x (by omega) hx1
      exact K (t 0 + 1) (Nat.le_refl _) (htn c4) I2 T2 ⟨hX2.1, hX2.2.1, hX2.2.2.1, BO6_cg hX2.2.2.2 (hlow c4)⟩
    · have c4 : len = 4 := by rw [N4, nI_ltI (by omega) (by omega)] at c4; omega
      refine hQ I2 T2 ?_
      rw [hend c4]
      exact hX2
  refine w_X9_extend hs _ _ ?_
  rw [elen, nI_clamp (show len - 1 < 2 ^ 31 by omega), hX.2.1 (len - 1) (by omega), hX.2.1 0 (by omega)]
  refine ⟨vp_in_nI (by omega) (by decide), ?_⟩
  rintro y2 rfl
  rw [eli]
  rintro y3 rfl
  rw [nI_clamp (show 8 * t (len - 1) + t 0 < 2 ^ 31 by omega)]
  have e0 : I1 81 0 = nI (t 0) := hX.2.1 0 (by omega)
  have nocl : ¬ (2 ≤ len ∧ lk4 V (t (len - 1) + 1) (t 0 + 1)) → XST Ib len t V (p + 1) I1 T := fun hn => ⟨hX.1, hX.2.1, hX.2.2.1, BO6_cg hX.2.2.2 (hnc hn)⟩
  obtain ⟨l1, l2⟩ := lnk I1 hX.1 (t (len - 1)) (t 0) tl t0
  refine br_c (fun c1 => ?_) (fun c1 => ⟨vp_in_nI (by omega) (by decide), ?_⟩)
  · have c1 : len ≤ 1 := by rw [show (1 : Int32) = nI 1 from rfl, nI_leI (by omega) (by omega)] at c1; exact c1
    have := after I1 T (nocl (by omega))
    rw [e0] at this
    exact this
  · have c1 : ¬ len ≤ 1 := by rw [show (1 : Int32) = nI 1 from rfl, nI_leI (by omega) (by omega)] at c1; exact c1
    by_cases cl : lk4 V (t (len - 1) + 1) (t 0 + 1)
    · refine br_f (fun e => (l1.mp e) cl) ?_
      obtain ⟨k1, k2, k3, k4⟩ := hcl (by omega) cl
      rw [(l2 cl).1, nI_add, ← k4]
      refine c_consider hs w hX.2.2.1 hX.2.2.2 k1 k2 k3 (fun k hk => by rw [hX.2.1 k hk, hrow k hk]) (fun I2 T2 f2 r2 b2 => qv_i ?_)
      exact after I2 T2 ⟨fun a h1 h2 h3 => by rw [f2 a h1 h3]; exact hX.1 a h1 h2 h3, fun k hk => by rw [f2 81 (by decide) (by decide)]; exact hX.2.1 k hk, r2, b2⟩
    · refine br_t (l1.mpr cl) ?_
      have := after I1 T (nocl (fun e => cl e.2))
      rw [e0] at this
      exact this
end RC6
