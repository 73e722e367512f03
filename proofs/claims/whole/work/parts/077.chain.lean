/-! the chain: the least row of persons -/
noncomputable def cif {α : Type} (p : Prop) (a b : α) : α := @ite α p (Classical.propDecidable p) a b
theorem cif_t {α : Type} {p : Prop} {a b : α} (h : p) : cif p a b = a := if_pos h
theorem cif_f {α : Type} {p : Prop} {a b : α} (h : ¬ p) : cif p a b = b := if_neg h
theorem ls_ex (p : Nat → Prop) (n : Nat) : ∃ k, ((∃ j, j < n ∧ p j) → k < n ∧ p k ∧ ∀ j, j < k → ¬ p j) := by
  by_cases hl : ∃ m, m < n ∧ p m
  · obtain ⟨k, h1, h2, h3⟩ := @fb_first p (fun _ => Classical.propDecidable _) n hl
    exact ⟨k, fun _ => ⟨h1, h2, h3⟩⟩
  · exact ⟨0, fun h => absurd h hl⟩
noncomputable def lsN (p : Nat → Prop) (n : Nat) : Nat := Classical.choose (ls_ex p n)
theorem lsN_ok {p : Nat → Prop} {n : Nat} (h : ∃ j, j < n ∧ p j) : lsN p n < n ∧ p (lsN p n) ∧ ∀ j, j < lsN p n → ¬ p j := Classical.choose_spec (ls_ex p n) h
theorem lsN_eq {p : Nat → Prop} {n k : Nat} (hk : k < n) (h : p k) (hn : ∀ j, j < k → ¬ p j) : lsN p n = k := by
  obtain ⟨a, b, c⟩ := lsN_ok (p := p) (n := n) ⟨k, hk, h⟩
  exact fb_first_one b c h hn
theorem dR_up {R : Nat → Nat → Prop} {p f m : Nat} (hm : m + 1 < 20) (h : dR R p f = m + 1) : ∃ q, q < 20 ∧ R p q ∧ dR R q f = m := by
  rcases dR_spec R p f with ⟨a, b, c⟩ | ⟨a, b⟩
  · rw [h] at a b c
    obtain ⟨q, h1, h2, h3⟩ := b
    exact ⟨q, h1, h2, dR_of (by omega) h3 (fun j hj hr => c (j + 1) (by omega) ⟨q, h1, h2, hr⟩)⟩
  · omega
theorem dR_dn {R : Nat → Nat → Prop} {b x m : Nat} (hb : b < 20) (hm : m + 1 < 20) (h : dR R b x = m + 1) : ∃ c, c < 20 ∧ R c x ∧ dR R b c = m := by
  rcases dR_spec R b x with ⟨a, b', c'⟩ | ⟨a, b'⟩
  · rw [h] at a b' c'
    obtain ⟨c, h0, h1, h2, h3⟩ := rc_tail.mp b'
    have hc : c < 20 := by
      rcases h0 with e | e
      · subst e; have : b = c := h1; omega
      · exact e
    exact ⟨c, hc, h2, dR_of (by omega) h1 (fun j hj hr => c' (j + 1) (by omega) (rc_tail.mpr ⟨c, Or.inr hc, hr, h2, h3⟩))⟩
  · omega
noncomputable def riP (P : Nat → Int32) (f u a : Nat) : Nat → Nat
  | 0 => a
  | s + 1 => lsN (fun q => pr P (riP P f u a s) q ∧ dR (pr P) q f = u - (s + 1)) 20
noncomputable def skP (P : Nat → Int32) (f w b : Nat) : Nat → Nat
  | 0 => f
  | s + 1 => lsN (fun c => pr P c (skP P f w b s) ∧ dR (pr P) b c = w - (s + 1)) 20
theorem riP_ok {P : Nat → Int32} {f u a : Nat} (hu : dR (pr P) a f = u) (hu2 : u < 20) (ha : a < 20) : ∀ s, s ≤ u → riP P f u a s < 20 ∧ dR (pr P) (riP P f u a s) f = u - s := by
  intro s
  induction s with
  | zero => intro _; exact ⟨ha, hu⟩
  | succ s ih =>
    intro hs
    obtain ⟨h1, h2⟩ := ih (by omega)
    obtain ⟨q, q1, q2, q3⟩ := dR_up (m := u - (s + 1)) (by omega) (h2.trans (by omega))
    obtain ⟨g1, g2, -⟩ := lsN_ok (p := fun q => pr P (riP P f u a s) q ∧ dR (pr P) q f = u - (s + 1)) (n := 20) ⟨q, q1, q2, q3⟩
    exact ⟨g1, g2.2⟩
theorem riP_ex {P : Nat → Int32} {f u a : Nat} (hu : dR (pr P) a f = u) (hu2 : u < 20) (ha : a < 20) {s : Nat} (hs : s < u) : ∃ q, q < 20 ∧ pr P (riP P f u a s) q ∧ dR (pr P) q f = u - (s + 1) := by
  obtain ⟨h1, h2⟩ := riP_ok hu hu2 ha s (by omega)
  exact dR_up (m := u - (s + 1)) (by omega) (h2.trans (by omega))
theorem skP_ok {P : Nat → Int32} {f w b : Nat} (hw : dR (pr P) b f = w) (hw2 : w < 20) (hf : f < 20) (hb : b < 20) : ∀ s, s ≤ w → skP P f w b s < 20 ∧ dR (pr P) b (skP P f w b s) = w - s := by
  intro s
  induction s with
  | zero => intro _; exact ⟨hf, hw⟩
  | succ s ih =>
    intro hs
    obtain ⟨h1, h2⟩ := ih (by omega)
    obtain ⟨q, q1, q2, q3⟩ := dR_dn (m := w - (s + 1)) hb (by omega) (h2.trans (by omega))
    obtain ⟨g1, g2, -⟩ := lsN_ok (p := fun c => pr P c (skP P f w b s) ∧ dR (pr P) b c = w - (s + 1)) (n := 20) ⟨q, q1, q2, q3⟩
    exact ⟨g1, g2.2⟩
theorem skP_ex {P : Nat → Int32} {f w b : Nat} (hw : dR (pr P) b f = w) (hw2 : w < 20) (hf : f < 20) (hb : b < 20) {s : Nat} (hs : s < w) : ∃ c, c < 20 ∧ pr P c (skP P f w b s) ∧ dR (pr P) b c = w - (s + 1) := by
  obtain ⟨h1, h2⟩ := skP_ok hw hw2 hf hb s (by omega)
  exact dR_dn (m := w - (s + 1)) hb (by omega) (h2.trans (by omega))
/-- place k of the chain -/
noncomputable def chA (V : mI) (v : Nat) (y : Int32) (a b : Nat) (k : Int32) : Int32 := match foA V v y a b with
  | none => (-1)
  | some f => cif (inN k (UA V v y a f + UA V v y b f + 1)) (nI (if k.toNatClampNeg ≤ UA V v y a f then riP (paA V v y) f (UA V v y a f) a k.toNatClampNeg else skP (paA V v y) f (UA V v y b f) b (k.toNatClampNeg - UA V v y a f))) (-1)
section CC
variable {E : Envt} {d : Nat} {Q : Pst} {h : mS} {I V : mI} {L : mL}
theorem c_isChildOf (hs : SL h) {P : Nat → Int32} {v c p : Nat} (hv : v < 5) (hc : c < 20) (h7 : I 56 7 = nI (40 * v)) (hP : ∀ i, i < 40 → I 58 (40 * v + i) = P i)
    (hQ : Q (some (.int (bI (P (2 * c) = nI p ∨ P (2 * c + 1) = nI p)))) h I L) : (CT E mX3_isChildOf d 0 0 [.ref (eB E + 56), .int (nI c), .int (nI p)] h I L Q) := by
  refine w_X3_isChildOf hs _ _ ?_
  rw [h7, N2, pk_mul, nI_add]
  rintro y1 rfl
  rw [nI_1, nI_clamp (by omega), nI_clamp (by omega)]
  have e1 : I 58 (40 * v + c * 2) = P (2 * c) := by rw [Nat.mul_comm c 2]; exact hP _ (by omega)
  have e2 : I 58 (40 * v + c * 2 + 1) = P (2 * c + 1) := by
    rw [show 40 * v + c * 2 + 1 = 40 * v + (2 * c + 1) by omega]; exact hP _ (by omega)
  rw [e1, e2]
  exact ⟨vp_in_nI (by omega) (by decide), fun _ => vp_in_nI (by omega) (by decide), hQ⟩
theorem bI_case {p : Prop} [Decidable p] {A : Prop} {B : Prop} (f : ¬ p → A) (g : p → B) : (bI p = 0 → A) ∧ (¬ bI p = 0 → B) := by
  by_cases hp : p
  · rw [bI_t hp]; exact br_f (by decide) (g hp)
  · rw [bI_f hp]; exact br_t rfl (f hp)
theorem c_descend (hs : SL h) {P : Nat → Int32} {v p : Nat} (hb : I 7 0 = nI (cP V)) (n20 : cP V ≤ 20) (hp : p < cP V) (hv : v < 5) (h7 : I 56 7 = nI (40 * v)) (hI : ∀ i, i < 40 → I 58 (40 * v + i) = P i) (hP : paOK V P)
    (hQ : ∀ f g : Nat → Int32, (∀ q, q < 20 → f q = dI (dR (pr P) q p)) → Q none h (two I 61 f 62 g) L) : (CT E mX3_descend (d + 1) 0 0 [.ref (eB E + 56), .int (nI p)] h I L Q) := by
  have h62 : (62 : Nat) ≠ 61 := by decide
  have e56 : ∀ f g, two I 61 f 62 g 56 7 = nI (40 * v) := fun f g => by rw [two_n (by decide) (by decide)]; exact h7
  have e58 : ∀ f g i, i < 40 → two I 61 f 62 g 58 (40 * v + i) = P i := fun f g i hi => by rw [two_n (by decide) (by decide)]; exact hI i hi
  have e7 : ∀ f g, two I 61 f 62 g 7 0 = nI (cP V) := fun f g => by rw [two_n (by decide) (by decide)]; exact hb
  have hR := pr_R n20 hP
  have hR' : ∀ a b, a < 20 → b < 20 → (fun a b => pr P b a) a b → (fun c => - (V 99 c).toInt) b < (fun c => - (V 99 c).toInt) a := fun a b ha hb hr => by have := hR b a hb ha hr; show - (V 99 b).toInt < - (V 99 a).toInt; omega
  have hlen : ∀ {n p q : Nat}, p < 20 → rc (fun a b => pr P b a) n p q → n < 20 ∧ q < 20 := fun hp hr => rc_len hR' hp hr
  have fin : ∀ (U : Nat → Nat) (f : Nat → Int32), (∀ q, q < 20 → f q = dI (U q)) → (∀ q, q < 20 → U q = dR (fun a b => pr P b a) p q) → ∀ q, q < 20 → f q = dI (dR (pr P) q p) := fun U f h1 h2 q hq => by rw [h1 q hq, h2 q hq, dR_flip (R := pr P) hq (by omega)]
  refine w_X3_descend hs _ ?_
  refine c_fillA hs (lt61 hs) (kk61 hs) (by decide) (fun f h1 _ => ⟨rfl, rfl, rfl, vp_in_nI (by omega) (by decide), ?_⟩)
  rw [nI_clamp (by omega), sA_two h62, uI_two1, uI_two2 h62]
  have K : ∀ m n at', m + at' = 20 → ∀ (U qu : Nat → Nat) (f g : Nat → Int32), (∀ q, q < 20 → f q = dI (U q)) → (∀ i, i < n → g i = nI (qu i)) → BQ (fun a b => pr P b a) p U qu n at' → at' ≤ n → (J E mX3_descend (d + 1) Q 0 0 26 [some (.ref (eB E + 56)), some (.int (nI p)), some (.int (nI n)), some (.int (nI at')), none] [] h (two I 61 f 62 g) L) := by
    intro m
    induction m with
    | zero =>
      intro n at' hm U qu f g hf hg hB hn
      have hn' := hB.2.1
      exact w_X3_descend_26 hs _ _ _ (br_t (nI_le (show n ≤ at' by omega) (by omega)) (hQ f g (fin U f hf (hB.done hR' (by omega) (by omega)))))
    | succ m ih =>
      intro n at' hm U qu f g hf hg hB hn
      have hn' := hB.2.1
      by_cases c0 : n ≤ at'
      · exact w_X3_descend_26 hs _ _ _ (br_t (nI_le c0 (by omega)) (hQ f g (fin U f hf (hB.done hR' (by omega) c0))))
      · have hqa := hB.2.2.1 at' (by omega)
        refine w_X3_descend_26 hs _ _ _ (br_f (nI_ge (by omega) (by omega)) (br_f (nI_ge (show at' < 20 by omega) (by decide)) ?_))
        have K40 : ∀ k, k ≤ cP V → ∀ n (U' qu' : Nat → Nat) (f g : Nat → Int32), (∀ q, q < 20 → f q = dI (U' q)) → (∀ i, i < n → g i = nI (qu' i)) → BQ (fun a b => pr P b a) p U' qu' n at' → at' < n → qu' at' = qu at' →
            (∀ b, b < k → pr P b (qu at') → U' b ≤ U' (qu at') + 1) → (J E mX3_descend (d + 1) Q 0 0 40 [some (.ref (eB E + 56)), some (.int (nI p)), some (.int (nI n)), some (.int (nI at')), some (.int (nI k))] [] h (two I 61 f 62 g) L) := by
          refine dn (cP V) ?_ ?_
          · intro n U' qu' f g hf hg hB hn hqq hd
            refine w_X3_descend_40 hs _ _ _ _ (br_t (by rw [e7]; exact nI_le (Nat.le_refl _) (by omega)) ?_)
            rw [nI_1]
            refine ih n (at' + 1) (by omega) U' qu' f g hf hg (hB.next hn fun b hb hr => ?_) (by omega)
            rw [hqq] at hr ⊢
            exact hd b (pr_lt n20 hP hb hqa hr).1 hr
          · intro k hk ihk n U' qu' f g hf hg hB hn hqq hd
            have hn' := hB.2.1
            refine w_X3_descend_40 hs _ _ _ _ (br_f (by rw [e7]; exact nI_ge hk (by omega)) ⟨vp_in_nI (by omega) (by decide), ?_⟩)
            rw [two_2 h62, nI_clamp (show at' < 2 ^ 31 by omega), hg at' hn, hqq]
            refine c_isChildOf (P := P) hs hv (by omega) (e56 f g) (e58 f g) ⟨rfl, rfl, _, rfl, bI_case (fun c1 => ?_) (fun c1 => ⟨vp_in_nI (by omega) (by decide), ?_⟩)⟩
            · rw [nI_1]
              refine ihk n U' qu' f g hf hg hB hn hqq fun b hb hr => ?_
              by_cases e : b = k
              · subst e; exact absurd hr c1
              · exact hd b (by omega) hr
            · rw [two_1, two_2 h62, nI_clamp (show k < 2 ^ 31 by omega), hf k (by omega), hg at' hn, hqq, nI_1 k]
              have hUk := hB.2.2.2.2.2.1 k (by omega)
              have hUq := hB.2.2.2.2.2.1 (qu at') hqa
              have hUq' := (hB.2.2.2.2.1 (qu at') hqa).mpr ⟨at', hn, hqq⟩
              by_cases c2 : U' k = 99
              · refine br_t ((dI_m1 (by omega)).mpr c2) ?_
                have c3 : n < 20 := by
                  have := hB.2.1
                  by_cases e : n = 20
                  · subst e; exact absurd c2 (hB.full k (by omega))
                  · omega
                refine br_f (nI_ge c3 (by decide)) ⟨vp_in_nI (by omega) (by decide), vp_in_nI (by omega) (by decide), ?_⟩
                rw [nI_clamp (show qu at' < 2 ^ 31 by omega), hf _ hqa, dI_n hUq', nI_1 n, nI_1 (U' (qu at')), nI_clamp (show n < 2 ^ 31 by omega), uI_two1, uI_two2 h62]
                have hpush := hB.push hlen (by omega) hn (show k < 20 by omega) (by rw [hqq]; exact c1) c2 c3
                rw [hqq] at hpush
                have hqb : qu at' ≠ k := fun e => hUq' (by rw [e]; exact c2)
                refine ihk (n + 1) _ _ _ _ (fun x hx => ?_) (fun i hi => ?_) hpush (by omega) ?_ (fun b' hb' hr => ?_)
                · show upd f k (nI (U' (qu at') + 1)) x = dI (if x = k then U' (qu at') + 1 else U' x)
                  by_cases e : x = k
                  · rw [e, upd_same', if_pos rfl, dI_n (by omega)]
                  · rw [upd_ne' e, if_neg e]; exact hf x hx
                · show upd g n (nI k) i = nI (if i = n then k else qu' i)
                  by_cases e : i = n
                  · rw [e, upd_same', if_pos rfl]
                  · rw [upd_ne' e, if_neg e]; exact hg i (by omega)
                · show (if at' = n then k else qu' at') = qu at'
                  rw [if_neg (by omega)]; exact hqq
                · show (if b' = k then U' (qu at') + 1 else U' b') ≤ (if qu at' = k then _ else U' (qu at')) + 1
                  rw [if_neg hqb]
                  by_cases e : b' = k
                  · rw [if_pos e]; exact Nat.le_refl _
                  · rw [if_neg e]; exact hd b' (by omega) hr
              · refine br_f (fun e => c2 ((dI_m1 (by omega)).mp e)) (ihk n U' qu' f g hf hg hB hn hqq fun b' hb' hr => ?_)
                by_cases ek : b' = k
                · subst ek
                  obtain ⟨i, hi, ei⟩ := (hB.2.2.2.2.1 b' (by omega)).mp c2
                  have := hB.2.2.2.2.2.2.2.1 i hi hn
                  rw [ei, hqq] at this
                  exact this
                · exact hd b' (by omega) hr
        exact K40 0 (by omega) n U qu f g hf hg hB (by omega) rfl (fun b hb => absurd hb (by omega))
  refine K 20 1 0 (by omega) (fun x => if x = p then 0 else 99) (fun _ => p) _ _ (fun x hx => ?_) (fun i hi => ?_) (BQ.start (by omega) rfl) (by omega)
  · show upd f p 0 x = dI (if x = p then 0 else 99)
    by_cases e : x = p
    · rw [e, upd_same', if_pos rfl]; rfl
    · rw [upd_ne' e, if_neg e, h1 x hx]; rfl
  · rw [show i = 0 by omega, upd_same']
theorem c_leastParent (hs : SL h) {P : Nat → Int32} {v p f m : Nat} (hb : I 7 0 = nI (cP V)) (n20 : cP V ≤ 20) (hp : p < 20) (hv : v < 5) (h7 : I 56 7 = nI (40 * v)) (hI : ∀ i, i < 40 → I 58 (40 * v + i) = P i) (hP : paOK V P) (hU : ∀ q, q < 20 → I 61 q = dI (dR (pr P) q f)) (hm : m < 20)
    (hex : ∃ q, q < 20 ∧ pr P p q ∧ dR (pr P) q f = m) (hQ : Q (some (.int (nI (lsN (fun q => pr P p q ∧ dR (pr P) q f = m) 20)))) h I L) : (CT E mX3_leastParent (d + 1) 0 0 [.ref (eB E + 56), .int (nI p), .int (nI m)] h I L Q) := by
  refine w_X3_leastParent hs _ _ ?_
  obtain ⟨l1, l2, l3⟩ := lsN_ok hex
  generalize lsN (fun q => pr P p q ∧ dR (pr P) q f = m) 20 = k0 at l1 l2 l3 hQ
  have hk0 := (pr_lt n20 hP hp l1 l2.1).2.1
  have key : ∀ k, k ≤ k0 → (J E mX3_leastParent (d + 1) Q 0 0 2 [some (.ref (eB E + 56)), some (.int (nI p)), some (.int (nI m)), some (.int (nI k))] [] h I L) := by
    refine dn k0 ?_ ?_
    · refine w_X3_leastParent_2 hs _ _ _ (br_f (by rw [hb]; exact nI_ge hk0 (by omega)) ?_)
      refine c_isChildOf (P := P) hs hv hp h7 hI ⟨rfl, rfl, _, rfl, bI_case (fun c1 => absurd l2.1 c1) (fun c1 => ⟨vp_in_nI (by omega) (by decide), ?_⟩)⟩
      rw [nI_clamp (by omega), hU k0 l1, l2.2, dI_n (by omega)]
      exact br_t rfl hQ
    · intro k hk ih
      refine w_X3_leastParent_2 hs _ _ _ (br_f (by rw [hb]; exact nI_ge (by omega) (by omega)) ?_)
      rw [nI_1]
      refine c_isChildOf (P := P) hs hv hp h7 hI ⟨rfl, rfl, _, rfl, bI_case (fun c1 => ih) (fun c1 => ⟨vp_in_nI (by omega) (by decide), ?_⟩)⟩
      rw [nI_clamp (by omega), hU k (by omega)]
      refine br_f (fun e => l3 k hk ⟨c1, ?_⟩) ih
      have := dR_99 (pr P) k f
      by_cases e9 : dR (pr P) k f = 99
      · rw [e9] at e; exact absurd e.symm (m1_nI (by omega))
      · rw [dI_n e9, nI_eq (by omega) (by omega)] at e; exact e
  exact key 0 (by omega)
theorem c_leastChild (hs : SL h) {P : Nat → Int32} {v p b m : Nat} (hb : I 7 0 = nI (cP V)) (n20 : cP V ≤ 20) (hp : p < 20) (hv : v < 5) (h7 : I 56 7 = nI (40 * v)) (hI : ∀ i, i < 40 → I 58 (40 * v + i) = P i) (hP : paOK V P) (hU : ∀ q, q < 20 → I 60 q = dI (dR (pr P) b q)) (hm : m < 20)
    (hex : ∃ c, c < 20 ∧ pr P c p ∧ dR (pr P) b c = m) (hQ : Q (some (.int (nI (lsN (fun c => pr P c p ∧ dR (pr P) b c = m) 20)))) h I L) : (CT E mX3_leastChild (d + 1) 0 0 [.ref (eB E + 56), .int (nI p), .int (nI m)] h I L Q) := by
  refine w_X3_leastChild hs _ _ ?_
  obtain ⟨l1, l2, l3⟩ := lsN_ok hex
  generalize lsN (fun c => pr P c p ∧ dR (pr P) b c = m) 20 = k0 at l1 l2 l3 hQ
  have hk0 := (pr_lt n20 hP l1 hp l2.1).1
  have key : ∀ k, k ≤ k0 → (J E mX3_leastChild (d + 1) Q 0 0 2 [some (.ref (eB E + 56)), some (.int (nI p)), some (.int (nI m)), some (.int (nI k))] [] h I L) := by
    refine dn k0 ?_ ?_
    · refine w_X3_leastChild_2 hs _ _ _ (br_f (by rw [hb]; exact nI_ge hk0 (by omega)) ?_)
      refine c_isChildOf (P := P) hs hv l1 h7 hI ⟨rfl, rfl, _, rfl, bI_case (fun c1 => absurd l2.1 c1) (fun c1 => ⟨vp_in_nI (by omega) (by decide), ?_⟩)⟩
      rw [nI_clamp (by omega), hU k0 l1, l2.2, dI_n (by omega)]
      exact br_t rfl hQ
    · intro k hk ih
      refine w_X3_leastChild_2 hs _ _ _ (br_f (by rw [hb]; exact nI_ge (by omega) (by omega)) ?_)
      rw [nI_1]
      refine c_isChildOf (P := P) hs hv (by omega) h7 hI ⟨rfl, rfl, _, rfl, bI_case (fun c1 => ih) (fun c1 => ⟨vp_in_nI (by omega) (by decide), ?_⟩)⟩
      rw [nI_clamp (by omega), hU k (by omega)]
      refine br_f (fun e => l3 k hk ⟨c1, ?_⟩) ih
      have := dR_99 (pr P) b k
      by_cases e9 : dR (pr P) b k = 99
      · rw [e9] at e; exact absurd e.symm (m1_nI (by omega))
      · rw [dI_n e9, nI_eq (by omega) (by omega)] at e; exact e
  exact key 0 (by omega)
end CC
