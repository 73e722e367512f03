/-! the component's kin -/
def two (I : mI) (a : Nat) (f : Nat → Int32) (b : Nat) (g : Nat → Int32) : mI := fun c => if c = a then f else if c = b then g else I c
theorem two_1 {I : mI} {a b : Nat} {f g : Nat → Int32} : two I a f b g a = f := by simp [two]
theorem two_2 {I : mI} {a b : Nat} {f g : Nat → Int32} (h : b ≠ a) : two I a f b g b = g := by simp [two, h]
theorem two_n {I : mI} {a b c : Nat} {f g : Nat → Int32} (h : c ≠ a) (h2 : c ≠ b) : two I a f b g c = I c := by simp [two, h, h2]
theorem uI_two1 {I : mI} {a b i : Nat} {f g : Nat → Int32} {x : Int32} : uI (two I a f b g) a i x = two I a (upd f i x) b g := by
  funext c j
  by_cases h : c = a
  · subst h; simp [uI, two, upd]
  · simp [uI, two, h]
theorem uI_two2 {I : mI} {a b i : Nat} {f g : Nat → Int32} {x : Int32} (h : b ≠ a) : uI (two I a f b g) b i x = two I a f b (upd g i x) := by
  funext c j
  by_cases h1 : c = a
  · subst h1; simp [uI, two, Ne.symm h]
  · by_cases h2 : c = b
    · subst h2; simp [uI, two, upd, h]
    · simp [uI, two, h1, h2]
theorem two_id {I : mI} {a b : Nat} : two I a (I a) b (I b) = I := by
  funext c
  by_cases h1 : c = a
  · subst h1; simp [two]
  · by_cases h2 : c = b
    · subst h2; simp [two, h1]
    · simp [two, h1, h2]
theorem sA_two {I : mI} {a b : Nat} {f : Nat → Int32} (h : b ≠ a) : sA I a f = two I a f b (I b) := by
  funext c
  by_cases h1 : c = a
  · subst h1; simp [two, sA]
  · by_cases h2 : c = b
    · subst h2; simp [two, h1, sA]
    · simp [two, h1, h2, sA]
def dI (n : Nat) : Int32 := if n = 99 then (-1) else nI n
theorem dI_m1 {n : Nat} (h : n < 2 ^ 31) : dI n = (-1) ↔ n = 99 := by
  unfold dI
  split
  · rename_i e; simp [e]
  · rename_i e; exact ⟨fun q => absurd q (m1_nI h), fun q => absurd q e⟩
theorem dI_n {n : Nat} (h : n ≠ 99) : dI n = nI n := if_neg h
section CK
variable {E : Envt} {d : Nat} {Q : Pst} {h : mS} {I V : mI} {L : mL}
theorem c_yearIn (q : CQ h I V) {k v : Nat} (hk : k < cN V) (hv : v < 5) (hQ : Q (some (.int (hdY V k v))) h I L) : (CT E mX5_yearIn d 0 0 [.ref (eB E + 17), .int (nI k), .int (nI v)] h I L Q) := by
  have n60 := q.w.N.n60
  have hat := (q.w.N.at k hk).nat (by decide)
  refine w_X5_yearIn q.s _ _ ?_
  rw [nI_clamp (by omega), bN_at q.b k (by omega), bN_in q.b k (by omega), hat.2]
  have ei : nI (V 105 (4 * k + 2)).toNatClampNeg * 5 + nI v = nI (5 * atN V k + v) := by
    rw [N5, pk_mul, nI_add, Nat.mul_comm]; rfl
  have hat1 : atN V k < 5 := hat.1
  rw [ei, nI_clamp (by omega), bN_wy q.b _ _ hat1 hv]
  refine ⟨vp_in_nI (by omega) (by decide), vp_in_nI (by omega) (by decide), ?_⟩
  rintro y3 rfl
  exact hQ
theorem c_fillT (q : CQ h I V) {v : Nat} {y : Int32} (hv : v < 5) (h7 : I 56 7 = nI (40 * v)) (hQ : ∀ f, (∀ i, i < 40 → f (40 * v + i) = paA V v y i) → (∀ i, i < 40 * v ∨ 40 * v + 40 ≤ i → f i = I 58 i) → Q none h (sA (uI I 57 v y) 58 f) L) :
    (CT E mX3_fill (d + 1) 0 0 [.ref (eB E + 56), .int (nI v), .int y] h I L Q) := by
  have n60 := q.w.N.n60
  have n20 := q.w.P.n20
  refine w_X3_fill q.s _ _ ?_
  rw [nI_clamp (by omega), h7]
  refine ⟨vp_in_nI hv (by decide), ?_⟩
  refine c_clearRow (s := 40 * v) (n := 40) q.s (lt58 q.s) (kk58 q.s) (by decide) (show 40 * v + 40 ≤ 200 by omega) (fun f h1 h2 => ⟨rfl, rfl, rfl, ?_⟩)
  rw [uI_ne (by decide)] at h2
  have K : ∀ k, k ≤ cN V → ∀ f, (∀ i, i < 40 → f (40 * v + i) = paF V v y k i) → (∀ i, i < 40 * v ∨ 40 * v + 40 ≤ i → f i = I 58 i) → (J E mX3_fill (d + 1) Q 0 0 31 [some (.ref (eB E + 56)), some (.int (nI v)), some (.int y), some (.ref (eB E + 17)), some (.int (nI k)), none, none] [] h (sA (uI I 57 v y) 58 f) L) := by
    have fr : ∀ f, CQ h (sA (uI I 57 v y) 58 f) V ∨ True := fun f => Or.inr trivial
    have hb : ∀ f, Bk h (sA (uI I 57 v y) 58 f) 1 V := fun f => q.b.cg (fun a ha => by rw [sA_ne (by omega), uI_ne (by omega)])
    refine dn (cN V) ?_ ?_
    · intro f g1 g2
      refine w_X3_fill_31 q.s _ _ _ (br_t ?_ (hQ f g1 g2))
      rw [bN_n (hb f), q.w.N.n]; exact nI_le (Nat.le_refl _) (by omega)
    · intro k hk ih f g1 g2
      obtain ⟨c, p, hc, hp, ec, ep, -, ei, e2, ek, eb⟩ := paI_ok q.w hk
      refine w_X3_fill_31 q.s _ _ _ (br_f (by rw [bN_n (hb f), q.w.N.n]; exact nI_ge hk (by omega)) ?_)
      have yi : ∀ Q', Q' (some (.int (hdY V k v))) h (sA (uI I 57 v y) 58 f) L → (CT E mX5_yearIn d 0 0 [.ref (eB E + 17), .int (nI k), .int (nI v)] h (sA (uI I 57 v y) 58 f) L Q') := by
        intro Q' hQ'
        have hat := (q.w.N.at k hk).nat (by decide)
        refine w_X5_yearIn q.s _ _ ?_
        rw [nI_clamp (by omega), bN_at (hb f) k (by omega), bN_in (hb f) k (by omega), hat.2]
        have ei : nI (V 105 (4 * k + 2)).toNatClampNeg * 5 + nI v = nI (5 * atN V k + v) := by
          rw [N5, pk_mul, nI_add, Nat.mul_comm]; rfl
        have hat1 : atN V k < 5 := hat.1
        rw [ei, nI_clamp (by omega), bN_wy (hb f) _ _ hat1 hv]
        refine ⟨vp_in_nI (by omega) (by decide), vp_in_nI (by omega) (by decide), ?_⟩
        rintro y3 rfl
        exact hQ'
      refine yi _ ⟨rfl, rfl, _, rfl, ?_⟩
      rw [nI_1]
      by_cases c1 : hdY V k v = (-1)
      · refine br_t c1 (ih f (fun i hi => ?_) g2)
        rw [paF, if_neg (fun q => q.1 c1)]; exact g1 i hi
      · refine br_f c1 ?_
        by_cases c2 : y < hdY V k v
        · refine br_t c2 (ih f (fun i hi => ?_) g2)
          rw [paF, if_neg (fun q => q.2 c2)]; exact g1 i hi
        · refine br_f c2 ⟨vp_in_nI (by omega) (by decide), ?_⟩
          rw [nI_clamp (show k < 2 ^ 31 by omega), bN_par (hb f) k (by omega), bN_chi (hb f) k (by omega), ep, ec]
          rintro y7 rfl
          have e56 : sA (uI I 57 v y) 58 f 56 7 = nI (40 * v) := by rw [sA_ne (by decide), uI_ne (by decide)]; exact h7
          rw [e56, nI_clamp (show p < 2 ^ 31 by omega), bP_kin (hb f) p (by omega), ek, N2, pk_mul, nI_add, nI_add]
          have hpi : 40 * v + c * 2 + (V 97 p).toNatClampNeg = 40 * v + paI V k := by rw [ei]; omega
          have hpl : paI V k < 40 := by omega
          rw [hpi, nI_clamp (by omega), uI_sA]
          refine ⟨vp_in_nI (by omega) (by decide), vp_in_nI (by omega) (by decide), ih _ (fun i hi => ?_) (fun i hi => ?_)⟩
          · rw [paF, if_pos ⟨c1, c2⟩]
            by_cases e : i = paI V k
            · rw [e, upd_same', upd_same', ep]
            · rw [upd_ne' e, upd_ne' (by omega)]; exact g1 i hi
          · rw [upd_ne' (by omega)]; exact g2 i hi
  exact K 0 (by omega) f (fun i hi => h1 _ (by omega) (by omega)) h2
theorem c_climb (hs : SL h) {n a2 p v : Nat} (ha2 : a2 = 59 ∨ a2 = 60) (n20 : cP V ≤ 20) (hp : p < cP V) (hv : v < 5) (h7 : I 56 7 = nI (40 * v)) (hP : paOK V (fun i => I 58 (40 * v + i)))
    (hQ : ∀ f g : Nat → Int32, (∀ q, q < 20 → f q = dI (dR (pr (fun i => I 58 (40 * v + i))) p q)) → Q none h (two I a2 f 62 g) L) :
    (CT E mX3_climb (d + 1) 0 0 [.ref (eB E + 56), .int (nI p), .ref (eB E + a2)] h I L Q) := by
  have hl2 : a2 < h.2.2 := by rcases ha2 with rfl | rfl; exact lt59 hs; exact lt60 hs
  have hk2 : h.1 a2 = (14, 20) := by rcases ha2 with rfl | rfl; exact kk59 hs; exact kk60 hs
  have h62 : (62 : Nat) ≠ a2 := by omega
  generalize hPP : (fun i => I 58 (40 * v + i)) = P at hP hQ
  have eP : ∀ f g i, two I a2 f 62 g 58 (40 * v + i) = P i := fun f g i => by rw [two_n (by omega) (by decide), ← hPP]
  have e56 : ∀ f g, two I a2 f 62 g 56 7 = nI (40 * v) := fun f g => by rw [two_n (by omega) (by decide)]; exact h7
  have hR := pr_R n20 hP
  have hlen : ∀ {n p q : Nat}, p < 20 → rc (pr P) n p q → n < 20 ∧ q < 20 := fun hp hr => rc_len (g := fun c => (V 99 c).toInt) hR hp hr
  refine w_X3_climb hs _ hl2 hk2 ?_
  refine c_fillA hs hl2 hk2 (by decide) (fun f h1 _ => ⟨rfl, rfl, rfl, vp_in_nI (by omega) (by decide), ?_⟩)
  rw [nI_clamp (by omega), sA_two h62, uI_two1, uI_two2 h62]
  have K : ∀ m n at', m + at' = 20 → ∀ (U qu : Nat → Nat) (f g : Nat → Int32), (∀ q, q < 20 → f q = dI (U q)) → (∀ i, i < n → g i = nI (qu i)) → BQ (pr P) p U qu n at' → at' ≤ n → (J E mX3_climb (d + 1) Q 0 0 21 [some (.ref (eB E + 56)), some (.int (nI p)), some (.ref (eB E + a2)), some (.int (nI n)), some (.int (nI at')), none, none, none] [] h (two I a2 f 62 g) L) := by
    intro m
    induction m with
    | zero =>
      intro n at' hm U qu f g hf hg hB hn
      have hn' := hB.2.1
      refine w_X3_climb_21 hs hl2 hk2 _ _ _ (br_t (nI_le (show n ≤ at' by omega) (by omega)) (hQ f g fun q hq => ?_))
      rw [hf q hq, hB.done hR (by omega) (by omega) q hq]
    | succ m ih =>
      intro n at' hm U qu f g hf hg hB hn
      have hn' := hB.2.1
      by_cases c0 : n ≤ at'
      · refine w_X3_climb_21 hs hl2 hk2 _ _ _ (br_t (nI_le c0 (by omega)) (hQ f g fun q hq => ?_))
        rw [hf q hq, hB.done hR (by omega) c0 q hq]
      · have hqa := hB.2.2.1 at' (by omega)
        refine w_X3_climb_21 hs hl2 hk2 _ _ _ (br_f (nI_ge (by omega) (by omega)) (br_f (nI_ge (show at' < 20 by omega) (by decide)) ⟨vp_in_nI (by omega) (by decide), ?_⟩))
        rw [e56, two_2 h62, nI_clamp (by omega), hg at' (by omega), N2, pk_mul, nI_add]
        rintro y4 rfl
        have K54 : ∀ k, k ≤ 2 → ∀ n (U' qu' : Nat → Nat) (f g : Nat → Int32), (∀ q, q < 20 → f q = dI (U' q)) → (∀ i, i < n → g i = nI (qu' i)) → BQ (pr P) p U' qu' n at' → at' < n → qu' at' = qu at' →
            (∀ k' b, k' < k → b < 20 → P (2 * qu at' + k') = nI b → U' b ≤ U' (qu at') + 1) → (J E mX3_climb (d + 1) Q 0 0 54 [some (.ref (eB E + 56)), some (.int (nI p)), some (.ref (eB E + a2)), some (.int (nI n)), some (.int (nI at')), some (.int (nI (40 * v + qu at' * 2))), some (.int (nI (40 * v + qu at' * 2 + k))), none] [] h (two I a2 f 62 g) L) := by
          refine dn 2 ?_ ?_
          · intro n U' qu' f g hf hg hB hn hqq hd
            refine w_X3_climb_54 hs hl2 hk2 _ _ _ _ _ (br_t (by rw [N2, nI_add]; exact nI_le (Nat.le_refl _) (by omega)) ?_)
            rw [nI_1]
            refine ih n (at' + 1) (by omega) U' qu' f g hf hg (hB.next hn fun b hb hr => ?_) (by omega)
            rw [hqq] at hr ⊢
            rcases hr with hr | hr
            · exact hd 0 b (by omega) hb hr
            · exact hd 1 b (by omega) hb hr
          · intro k hk ihk n U' qu' f g hf hg hB hn hqq hd
            have hn' := hB.2.1
            have eidx : 40 * v + qu at' * 2 + k = 40 * v + (2 * qu at' + k) := by omega
            refine w_X3_climb_54 hs hl2 hk2 _ _ _ _ _ (br_f (by rw [N2, nI_add]; exact nI_ge (by omega) (by omega)) ⟨vp_in_nI (by omega) (by decide), ?_⟩)
            rw [nI_clamp (show 40 * v + qu at' * 2 + k < 2 ^ 31 by omega), nI_1 (40 * v + qu at' * 2 + k)]
            rw [show two I a2 f 62 g 58 (40 * v + qu at' * 2 + k) = P (2 * qu at' + k) by rw [eidx, eP]]
            rintro y3 rfl
            rcases hP (2 * qu at' + k) (by omega) with c1 | ⟨b, hb, eb, -, -⟩
            · refine br_t c1 (ihk n U' qu' f g hf hg hB hn hqq fun k' b hk' hb hr => ?_)
              by_cases e : k' = k
              · subst e; rw [c1] at hr; exact absurd hr.symm (m1_nI (by omega))
              · exact hd k' b (by omega) hb hr
            · rw [eb]
              have hpr : pr P (qu at') b := by
                have : k = 0 ∨ k = 1 := by omega
                rcases this with rfl | rfl
                · exact Or.inl eb
                · exact Or.inr eb
              refine br_f (m1_nI (by omega)) ⟨vp_in_nI (by omega) (by decide), ?_⟩
              rw [nI_clamp (show b < 2 ^ 31 by omega), two_1, hf b (by omega), two_2 h62]
              have hUb := hB.2.2.2.2.2.1 b (by omega)
              have hUq := hB.2.2.2.2.2.1 (qu at') hqa
              have hUq' := (hB.2.2.2.2.1 (qu at') hqa).mpr ⟨at', hn, hqq⟩
              by_cases c2 : U' b = 99
              · refine br_t ((dI_m1 (by omega)).mpr c2) ?_
                have c3 : n < 20 := by
                  have := hB.2.1
                  by_cases e : n = 20
                  · subst e; exact absurd c2 (hB.full b (by omega))
                  · omega
                refine br_f (nI_ge c3 (by decide)) ⟨vp_in_nI (by omega) (by decide), ?_, vp_in_nI (by omega) (by decide), ?_⟩
                · rw [nI_clamp (by omega), hg at' hn, hqq]; exact vp_in_nI (by omega) (by decide)
                · rw [nI_clamp (show at' < 2 ^ 31 by omega), hg at' hn, hqq, nI_clamp (show qu at' < 2 ^ 31 by omega), hf _ hqa, dI_n hUq', nI_1, nI_1, nI_clamp (show n < 2 ^ 31 by omega), uI_two1, uI_two2 h62]
                  have hpush := hB.push hlen (by omega) hn (show b < 20 by omega) (by rw [hqq]; exact hpr) c2 c3
                  rw [hqq] at hpush
                  have hqb : qu at' ≠ b := fun e => hUq' (by rw [e]; exact c2)
                  refine ihk (n + 1) _ _ _ _ (fun x hx => ?_) (fun i hi => ?_) hpush (by omega) ?_ (fun k' b' hk' hb' hr => ?_)
                  · show upd f b (nI (U' (qu at') + 1)) x = dI (if x = b then U' (qu at') + 1 else U' x)
                    by_cases e : x = b
                    · rw [e, upd_same', if_pos rfl, dI_n (by omega)]
                    · rw [upd_ne' e, if_neg e]; exact hf x hx
                  · show upd g n (nI b) i = nI (if i = n then b else qu' i)
                    by_cases e : i = n
                    · rw [e, upd_same', if_pos rfl]
                    · rw [upd_ne' e, if_neg e]; exact hg i (by omega)
                  · show (if at' = n then b else qu' at') = qu at'
                    rw [if_neg (by omega)]; exact hqq
                  · show (if b' = b then U' (qu at') + 1 else U' b') ≤ (if qu at' = b then _ else U' (qu at')) + 1
                    rw [if_neg hqb]
                    by_cases e : b' = b
                    · rw [if_pos e]; exact Nat.le_refl _
                    · rw [if_neg e]
                      by_cases ek : k' = k
                      · subst ek
                        rw [eb, nI_eq (by omega) (by omega)] at hr
                        exact absurd hr.symm e
                      · exact hd k' b' (by omega) hb' hr
              · refine br_f (fun e => c2 ((dI_m1 (by omega)).mp e)) (ihk n U' qu' f g hf hg hB hn hqq fun k' b' hk' hb' hr => ?_)
                by_cases ek : k' = k
                · subst ek
                  rw [eb, nI_eq (by omega) (by omega)] at hr
                  subst hr
                  obtain ⟨i, hi, ei⟩ := (hB.2.2.2.2.1 b (by omega)).mp c2
                  have := hB.2.2.2.2.2.2.2.1 i hi hn
                  rw [ei, hqq] at this
                  exact this
                · exact hd k' b' (by omega) hb' hr
        exact K54 0 (by omega) n U qu f g hf hg hB (by omega) rfl (fun k' b hk' => absurd hk' (by omega))
  refine K 20 1 0 (by omega) (fun x => if x = p then 0 else 99) (fun _ => p) _ _ (fun x hx => ?_) (fun i hi => ?_) (BQ.start (by omega) rfl) (by omega)
  · show upd f p 0 x = dI (if x = p then 0 else 99)
    by_cases e : x = p
    · rw [e, upd_same', if_pos rfl]; rfl
    · rw [upd_ne' e, if_neg e, h1 x hx]; rfl
  · rw [show i = 0 by omega, upd_same']
/-- what a look at kin changes -/
def KCr (I I' : mI) : Prop := (∀ a, a < 56 ∨ 62 < a → I' a = I a) ∧ ∀ j, j ≠ 7 → I' 56 j = I 56 j
theorem KCr.fr {I I' : mI} (k : KCr I I') : FrC I I' := fun a ha => k.1 a (by omega)
theorem c_nearest (q : CQ h I V) {a b v : Nat} {y : Int32} (ha : a < cP V) (hb : b < cP V) (hv : v < 5) (hy : ¬ y = (-1))
    (hQ : ∀ I', KCr I I' → Kc I' V → I' 56 7 = nI (40 * v) → (∀ i, i < 40 → I' 58 (40 * v + i) = paA V v y i) → (∀ q, q < 20 → I' 59 q = dI (UA V v y a q)) → (∀ q, q < 20 → I' 60 q = dI (UA V v y b q)) → Q (some (.int (oI (foA V v y a b)))) h I' L) :
    (CT E mX3_nearest (d + 2) 0 0 [.ref (eB E + 56), .int (nI a), .int (nI b), .int (nI v), .int y] h I L Q) := by
  have n20 := q.w.P.n20
  refine w_X3_nearest q.s _ _ _ _ ?_
  have e40 : nI v * 40 = nI (40 * v) := by rw [N40, pk_mul, Nat.mul_comm]
  rw [nI_clamp (by omega), e40]
  refine ⟨vp_in_nI hv (by decide), ?_⟩
  have go : ∀ I1, (∀ a, a < 56 ∨ 58 < a → I1 a = I a) → (∀ j, j ≠ 7 → I1 56 j = I 56 j) → Kc I1 V → I1 56 7 = nI (40 * v) → (∀ i, i < 40 → I1 58 (40 * v + i) = paA V v y i) → (J E mX3_nearest (d + 2) Q 0 0 26 [some (.ref (eB E + 56)), some (.int (nI a)), some (.int (nI b)), some (.int (nI v)), some (.int y), none, none] [] h I1 L) := by
    intro I1 g1 g2 gk g3 g4
    have ok1 : paOK V (fun i => I1 58 (40 * v + i)) := fun i hi => by
      have e : (fun i => I1 58 (40 * v + i)) i = paA V v y i := g4 i hi
      rw [e]; exact paA_ok q.w v y i hi
    refine w_X3_nearest_26 q.s _ _ _ _ ?_
    refine c_climb (n := 0) q.s (Or.inl rfl) n20 ha hv g3 ok1 (fun u u' hu => ⟨rfl, rfl, rfl, ?_⟩)
    refine c_climb (n := 0) q.s (Or.inr rfl) n20 hb hv (by rw [two_n (by decide) (by decide)]; exact g3) (by rw [two_n (by decide) (by decide)]; exact ok1) (fun t t' ht => ⟨rfl, rfl, rfl, ?_⟩)
    rw [two_n (by decide) (by decide)] at ht
    have hu' : ∀ q, q < 20 → u q = dI (UA V v y a q) := fun q hq => by rw [hu q hq]; unfold UA; rw [dR_cg (P' := paA V v y) g4 (by omega)]
    have ht' : ∀ q, q < 20 → t q = dI (UA V v y b q) := fun q hq => by rw [ht q hq]; unfold UA; rw [dR_cg (P' := paA V v y) g4 (by omega)]
    have lu : ∀ q, UA V v y a q < 20 ∨ UA V v y a q = 99 := fun q => dR_99 _ _ _
    have lt : ∀ q, UA V v y b q < 20 ∨ UA V v y b q = 99 := fun q => dR_99 _ _ _
    generalize hJ : two (two I1 59 u 62 u') 60 t 62 t' = I2
    have eo : ∀ a, a ≠ 59 → a ≠ 60 → a ≠ 62 → I2 a = I1 a := fun a h1 h2 h3 => by rw [← hJ, two_n h2 h3, two_n h1 h3]
    have e59 : I2 59 = u := by rw [← hJ, two_n (by decide) (by decide), two_1]
    have e60 : I2 60 = t := by rw [← hJ, two_1]
    have e7 : I2 7 0 = nI (cP V) := by rw [eo 7 (by decide) (by decide) (by decide), g1 7 (by decide), bP_n q.b]; exact q.w.P.n
    have K : ∀ k, k ≤ cP V → (J E mX3_nearest (d + 2) Q 0 0 50 [some (.ref (eB E + 56)), some (.int (nI a)), some (.int (nI b)), some (.int (nI v)), some (.int y), some (.int (oI (foF (UA V v y a) (UA V v y b) k))), some (.int (nI k))] [] h I2 L) := by
      refine dn (cP V) ?_ ?_
      · refine w_X3_nearest_50 q.s _ _ _ _ _ _ (br_t (by rw [e7]; exact nI_le (Nat.le_refl _) (by omega)) ?_)
        refine hQ I2 ⟨fun a h1 => by rw [eo a (by omega) (by omega) (by omega)]; exact g1 a (by omega), fun j hj => by rw [eo 56 (by decide) (by decide) (by decide)]; exact g2 j hj⟩ (gk.cg (eo 57 (by decide) (by decide) (by decide)) (eo 58 (by decide) (by decide) (by decide))) (by rw [eo 56 (by decide) (by decide) (by decide)]; exact g3) (by rw [eo 58 (by decide) (by decide) (by decide)]; exact g4) (by rw [e59]; exact hu') (by rw [e60]; exact ht')
      · intro k hk ih
        refine w_X3_nearest_50 q.s _ _ _ _ _ _ (br_f (by rw [e7]; exact nI_ge hk (by omega)) ⟨vp_in_nI (by omega) (by decide), ?_⟩)
        rw [nI_clamp (by omega), e59, e60, hu' k (by omega), ht' k (by omega), nI_1]
        have lk := lu k
        have lk' := lt k
        by_cases c1 : UA V v y a k = 99
        · rw [foF_n (Or.inl (by omega))] at ih
          exact br_t ((dI_m1 (by omega)).mpr c1) ih
        · refine br_f (fun e => c1 ((dI_m1 (by omega)).mp e)) ?_
          by_cases c2 : UA V v y b k = 99
          · rw [foF_n (Or.inr (Or.inl (by omega)))] at ih
            exact br_t ((dI_m1 (by omega)).mpr c2) ih
          · refine br_f (fun e => c2 ((dI_m1 (by omega)).mp e)) ?_
            cases hf : foF (UA V v y a) (UA V v y b) k with
            | none =>
              rw [foF_y (by omega) (by omega) (fun f q => by rw [hf] at q; cases q)] at ih
              exact br_t rfl ih
            | some f =>
              have hfl := foF_lt hf
              have luf := lu f
              have ltf := lt f
              have ev : (oI (some f)) = nI f := rfl
              rw [ev]
              refine br_f (m1_nI (by omega)) ?_
              refine w_X3_isNearer q.s _ _ ?_
              rw [nI_clamp (show k < 2 ^ 31 by omega), nI_clamp (show f < 2 ^ 31 by omega), e59, e60, hu' k (by omega), ht' k (by omega), hu' f (by omega), ht' f (by omega), dI_n c1, dI_n c2, dI_n (show UA V v y a f ≠ 99 by omega), dI_n (show UA V v y b f ≠ 99 by omega), nI_add, nI_add]
              refine ⟨vp_in_nI (by omega) (by decide), ?_⟩
              rintro y2 rfl
              refine ⟨vp_in_nI (by omega) (by decide), ?_⟩
              rintro y4 rfl
              refine ⟨rfl, rfl, _, rfl, ?_⟩
              have iff1 : (nI (UA V v y a k + UA V v y b k) < nI (UA V v y a f + UA V v y b f) ∨ nI (UA V v y a k + UA V v y b k) = nI (UA V v y a f + UA V v y b f) ∧ ¬ nI (UA V v y a f) ≤ nI (UA V v y a k)) ↔ (UA V v y a k + UA V v y b k < UA V v y a f + UA V v y b f ∨ (UA V v y a k + UA V v y b k = UA V v y a f + UA V v y b f ∧ UA V v y a k < UA V v y a f)) := by
                rw [nI_ltI (by omega) (by omega), nI_eq (by omega) (by omega), nI_leI (by omega) (by omega), Nat.not_le]
              by_cases c3 : UA V v y a k + UA V v y b k < UA V v y a f + UA V v y b f ∨ (UA V v y a k + UA V v y b k = UA V v y a f + UA V v y b f ∧ UA V v y a k < UA V v y a f)
              · dsimp only
                rw [bI_t (iff1.mpr c3), if_neg (show ¬ (1 : Int32) = 0 by decide)]
                rw [foF_y (by omega) (by omega) (fun f' q => by rw [hf] at q; cases q; exact c3)] at ih
                exact ih
              · dsimp only
                rw [bI_f (fun e => c3 (iff1.mp e)), if_pos rfl]
                rw [foF_n (Or.inr (Or.inr ⟨f, hf, c3⟩)), hf] at ih
                exact ih
    exact K 0 (by omega)
  by_cases c : I 57 v = y
  · refine br_t c (go _ (fun a h1 => uI_ne (by omega)) (fun j hj => by rw [uI_s, sA_at, upd_ne' hj]) (q.k.cg (uI_ne (by decide)) (uI_ne (by decide))) (by rw [uI_s, sA_at, upd_same']) (fun i hi => ?_))
    rw [uI_ne (by decide), q.k v hv (by rw [c]; exact hy) i hi, c]
  · refine br_f c ?_
    have q1 : CQ h (uI I 56 7 (nI (40 * v))) V := q.fr FrC.u (q.k.cg (uI_ne (by decide)) (uI_ne (by decide)))
    refine c_fillT q1 hv (by rw [uI_s, sA_at, upd_same']) (fun f h1 h2 => ⟨rfl, rfl, rfl, ?_⟩)
    rw [uI_ne (by decide)] at h2
    refine go _ (fun a h1 => by rw [sA_ne (by omega), uI_ne (by omega), uI_ne (by omega)]) (fun j hj => by rw [sA_ne (by decide), uI_ne (by decide), uI_s, sA_at, upd_ne' hj]) (fun v' hv' hn i hi => ?_) (by rw [sA_ne (by decide), uI_ne (by decide), uI_s, sA_at, upd_same']) (fun i hi => by rw [sA_at]; exact h1 i hi)
    have e57 : (sA (uI (uI I 56 7 (nI (40 * v))) 57 v y) 58 f) 57 = upd (I 57) v y := by rw [sA_ne (by decide), uI_s (I := uI I 56 7 _), sA_at, uI_ne (by decide)]
    rw [e57] at hn ⊢
    rw [sA_at]
    by_cases e : v' = v
    · subst e; rw [upd_same']; exact h1 i hi
    · rw [upd_ne' e] at hn ⊢
      rw [h2 _ (by omega)]
      exact q.k v' hv' hn i hi
theorem c_steps (q : CQ h I V) {a b v : Nat} {y : Int32} (ha : a < cP V) (hb : b < cP V) (hv : v < 5) (hy : ¬ y = (-1)) (hQ : ∀ I', KCr I I' → Kc I' V → Q (some (.int (kiA V v y a b))) h I' L) :
    (CT E mX3_steps (d + 3) 0 0 [.ref (eB E + 56), .int (nI a), .int (nI b), .int (nI v), .int y] h I L Q) := by
  have n20 := q.w.P.n20
  refine w_X3_steps q.s _ _ _ _ ?_
  refine c_nearest q ha hb hv hy (fun I' k1 k2 k3 k4 k5 k6 => ⟨rfl, rfl, _, rfl, ?_⟩)
  have hk := hQ I' k1 k2
  unfold kiA at hk
  cases hf : foA V v y a b with
  | none => rw [hf] at hk; exact ⟨fun e => absurd rfl e, hk⟩
  | some f =>
    rw [hf] at hk
    have hfl := foF_lt hf
    have ev : (oI (some f)) = nI f := rfl
    rw [ev]
    refine ⟨fun _ => vp_in_nI (by omega) (by decide), ?_⟩
    rw [if_neg (m1_nI (by omega)), nI_clamp (by omega), k5 f (by omega), k6 f (by omega), dI_n (by omega), dI_n (by omega), nI_add]
    exact hk
end CK
