/-! image and again -/
section IMG
variable {E : Envt} {d : Nat} {Q : Pst} {h : mS} {I V : mI} {L : mL}
theorem r_3 {x : Int32} : (¬ x < 0 ∧ ¬ 2 < x) ↔ inN x 3 := rng_le (m := 2) rfl (by decide)
/-- two books lie apart -/
theorem LO.ap {b c : Nat} (l1 : LO h b ksX0 rsX0) (l2 : LO h c ksX0 rsX0) (hne : b ≠ c) : b + 45 ≤ c ∨ c + 45 ≤ b := by
  have hk : ∀ j, j < 45 → 1 ≤ j → ∀ q, ksX0[j]? = some q → q.1 ≠ 0 := by decide
  have hlen : ksX0.length = 45 := rfl
  apply Classical.byContradiction
  intro hn
  have key : ∀ {b c : Nat}, LO h b ksX0 rsX0 → LO h c ksX0 rsX0 → b < c → c < b + 45 → False := fun {b c} l1 l2 h1 h2 => by
    obtain ⟨q, hq⟩ : ∃ q, ksX0[c - b]? = some q := ⟨_, List.getElem?_eq_getElem (by rw [hlen]; omega)⟩
    have e1 := l1.kd (c - b) hq
    rw [show b + (c - b) = c by omega] at e1
    have e2 : h.1 c = (0, 0) := l2.kd 0 rfl
    exact hk (c - b) (by omega) (by omega) q hq (by rw [← e1, e2])
  by_cases c1 : b < c
  · exact key l1 l2 c1 (by omega)
  · exact key l2 l1 (by omega) (by omega)
noncomputable def imgN (V : mI) (k : Int32) : Int32 × mI := cip (inN k 3) (1, cpS V 0 (k.toNatClampNeg + 1) 123) (0, V)
/-- what an image leaves -/
def UI (h h' : mS) (I I' : mI) (b : Nat) : Prop := h.2.2 ≤ h'.2.2 ∧ (∀ a, a < h.2.2 → h'.1 a = h.1 a) ∧ (∀ a, a < h.2.2 → a ≠ 46 → a ≠ b + 33 → a ≠ b + 34 → a ≠ b + 35 → h'.2.1 a = h.2.1 a) ∧ (∀ a, a < h.2.2 → a < b ∨ b + 37 ≤ a → I' a = I a)
theorem ui_LT {h' : mS} {I' : mI} {b t nl nt : Nat} (hs : SL h) (u : UI h h' I I' b) (w : LT h t nl nt) (hap : t + 7 < b ∨ b + 37 ≤ t) : LT h' t nl nt := by
  have n46 := LT_ne w (k := 6) (kk46 hs)
  obtain ⟨a, ⟨k0, k1, k2, k3, k4, k5, k6, k7⟩, r, n⟩ := w
  have u1 := u.1
  have u2 := u.2.1
  have e := u.2.2.1 t (by omega) n46 (by omega) (by omega) (by omega)
  refine ⟨by omega, ⟨?_, ?_, ?_, ?_, ?_, ?_, ?_, ?_⟩, by rw [e]; exact r, n⟩
  · rw [u2 _ (by omega)]; exact k0
  · rw [u2 _ (by omega)]; exact k1
  · rw [u2 _ (by omega)]; exact k2
  · rw [u2 _ (by omega)]; exact k3
  · rw [u2 _ (by omega)]; exact k4
  · rw [u2 _ (by omega)]; exact k5
  · rw [u2 _ (by omega)]; exact k6
  · rw [u2 _ (by omega)]; exact k7
theorem ui_TR {h' : mS} {I' : mI} {b t x : Nat} (hs : SL h) (u : UI h h' I I' b) (w : TR h I V t x) (hap : ∀ nl nt, LT h t nl nt → t + 7 < b ∨ b + 37 ≤ t) : TR h' I' V t x := by
  obtain ⟨nl, w⟩ := w
  have ap := hap _ _ w.LT
  have l1 := w.LT.1
  have w2 : TRn h I' V t x nl := w.cg fun a h1 h2 => u.2.2.2 a (by omega) (by omega)
  exact ⟨nl, w2.l16, ui_LT hs u w2.LT ap, w2.lo, w2.n, w2.v, w2.ft, w2.ac, w2.nu, w2.su, w2.si, w2.bo, w2.no⟩
theorem ui_Bk {h' : mS} {I' : mI} {b c : Nat} (hs : SL h) (u : UI h h' I I' b) (hap : ∀ t nl nt, LT h t nl nt → t + 7 < b ∨ b + 37 ≤ t) (w : Bk h I c V) (hc : c + 45 ≤ h.2.2) (hd : c + 45 ≤ b ∨ b + 45 ≤ c) (h46 : c = 1 ∨ 147 ≤ c) : Bk h' I' c V := by
  have f : ∀ j, j < 37 → I' (c + j) = I (c + j) := fun j hj => u.2.2.2 _ (by omega) (by omega)
  have r : ∀ j, j < 45 → h'.2.1 (c + j) = h.2.1 (c + j) := fun j hj => u.2.2.1 _ (by omega) (by omega) (by omega) (by omega) (by omega)
  have f' : ∀ a, c ≤ a → a < c + 37 → I' a = I a := fun a h1 h2 => u.2.2.2 _ (by omega) (by omega)
  refine ⟨w.S.cv (fun _ _ => rfl) (fun a ha => f' a (by omega) (by omega)), w.H.cv (fun _ _ => rfl) (fun a ha => f' a (by omega) (by omega)), w.P.cv (fun _ _ => rfl) (fun a ha => f' a (by omega) (by omega)), w.O.cv (fun _ _ => rfl) (fun a ha => f' a (by omega) (by omega)), w.N.cv (fun _ _ => rfl) (fun a ha => f' a (by omega) (by omega)), w.M.cv (fun _ _ => rfl) (fun a ha => f' a (by omega) (by omega)), ⟨fun x hx => ?_, fun m hm h2 => ?_, fun i t hi e => ?_, fun i t hi e => ?_⟩⟩
  · obtain ⟨t, g1, g2⟩ := w.X.tx x hx
    exact ⟨t, by rw [r 35 (by omega)]; exact g1, ui_TR hs u g2 (hap t)⟩
  · obtain ⟨t, u', g1, g2, g3, g4⟩ := w.X.wt m hm h2
    exact ⟨t, u', by rw [r 33 (by omega)]; exact g1, ui_TR hs u g2 (hap t), by rw [r 34 (by omega)]; exact g3, ui_TR hs u g4 (hap u')⟩
  · rw [r 33 (by omega)] at e
    obtain ⟨nl, nt, lt⟩ := w.X.a i t hi e
    exact ⟨_, _, ui_LT hs u lt (hap _ _ _ lt)⟩
  · rw [r 34 (by omega)] at e
    obtain ⟨nl, nt, lt⟩ := w.X.b i t hi e
    exact ⟨_, _, ui_LT hs u lt (hap _ _ _ lt)⟩
theorem ui_LO {h' : mS} {I' : mI} {b c : Nat} (u : UI h h' I I' b) (l : LO h c ksX0 rsX0) (hd : c + 45 ≤ b ∨ b + 45 ≤ c) (h46 : c = 1 ∨ 147 ≤ c) : LO h' c ksX0 rsX0 := by
  have hlen : ksX0.length = 45 := rfl
  have h1 := l.1
  rw [hlen] at h1
  have u1 := u.1
  refine ⟨by rw [hlen]; omega, fun j q hj => ?_, fun q hq => ?_⟩
  · have := (List.getElem?_eq_some_iff.mp hj).1
    rw [hlen] at this
    rw [u.2.1 _ (by omega)]; exact l.2.1 j q hj
  · have := rsX0_l q hq
    rw [hlen] at this
    rw [u.2.2.1 _ (by omega) (by omega) (by omega) (by omega) (by omega)]; exact l.2.2 q hq
def SBX0 : List (Nat × Nat × Nat) := [(35, 6, 37), (35, 5, 37), (35, 4, 37), (35, 3, 37), (35, 2, 37), (35, 1, 37), (35, 0, 37), (37, 7, 44), (37, 6, 43), (37, 5, 42), (37, 4, 41), (37, 3, 40), (37, 2, 39), (37, 1, 38), (0, 6, 36), (0, 5, 35), (0, 4, 23), (23, 11, 34), (23, 10, 33), (23, 9, 32), (23, 8, 31), (23, 7, 30), (23, 6, 29), (23, 5, 28), (23, 4, 27), (23, 3, 26), (23, 2, 25), (23, 1, 24), (0, 3, 16), (16, 6, 22), (16, 5, 21), (16, 4, 20), (16, 3, 19), (16, 2, 18), (16, 1, 17), (0, 2, 6), (6, 9, 15), (6, 8, 14), (6, 7, 13), (6, 6, 12), (6, 5, 11), (6, 4, 10), (6, 3, 9), (6, 2, 8), (6, 1, 7), (0, 1, 1), (1, 4, 5), (1, 3, 4), (1, 2, 3), (1, 1, 2)]
theorem f0_lt {b a : Nat} (h : a < b) : f_X0 (b + 0) I a = I a := by
  unfold f_X0 f_X10 f_X4 f_X5 f_X7 f_X1
  have e : ∀ {J : mI} {c n : Nat} {x : Int32}, a ≠ c → fiI J c n x a = J a := fun hc => by funext j; unfold fiI; rw [if_neg (fun z => hc z.1)]
  rw [uI_ne (by omega), uI_ne (by omega), cpI_ne (by omega), uI_ne (by omega), uI_ne (by omega), uI_ne (by omega), uI_ne (by omega), uI_ne (by omega), e (by omega)]
theorem c_image (r : Rel h I V) {x : Int32} (hQ0 : ¬ inN x 3 → Q (some (.int 0)) h I L) (hQ1 : ∀ k h' I' b, k < 3 → x = nI k → SL h' → UI h h' I I' b → 147 ≤ b → (∀ j, h'.2.1 46 j = if j = k then some b else h.2.1 46 j) → LO h' b ksX0 rsX0 → Bk h' I' b V → (∀ t nl nt, LT h t nl nt → t + 7 < b ∨ b + 37 ≤ t) → (∀ c, LO h c ksX0 rsX0 → h.2.1 46 k = some c ∨ c + 45 ≤ b ∨ b + 45 ≤ c) → (h.2.1 46 k = some b ∨ (h.2.1 46 k = none ∧ b = h.2.2)) → Q (some (.int 1)) h' I' L) : CT E mX11_image (d + 4) 45 1692 [.ref (eB E + 0), .int x] h I L Q := by
  obtain ⟨q, v, r51, ims⟩ := r
  have hs := q.s
  have h147 := hs.1
  -- from the book's place on
  have p37 : ∀ (k b : Nat) (h1 : mS) (I : mI), k < 3 → x = nI k → SL h1 → LO h1 b ksX0 rsX0 → 147 ≤ b → Bk h1 I 1 V → (∀ h' I', SL h' → h'.1 = h1.1 → h'.2.2 = h1.2.2 → (∀ a, a ≠ b + 33 → a ≠ b + 34 → a ≠ b + 35 → h'.2.1 a = h1.2.1 a) → (∀ a, a < b ∨ b + 37 ≤ a → I' a = I a) → Bk h' I' b V → Q (some (.int 1)) h' I' L) → J E mX11_image (d + 4) Q 0 0 37 [some (.ref (eB E + 0)), some (.int x), some (.ref (eB E + b))] [] h1 I L := by
    intro k b h1 I hk hx hs1 lo hb bk fin
    refine J.aload_n dX11_image_37 rfl rfl ?_
    refine J.aload_n dX11_image_38 rfl rfl ?_
    refine J.getR (r := 1) fl_X11_12 rfl dX11_image_39 (lt0 hs1) (kk0 hs1) (rr0_0 hs1) ?_
    refine J.callV (M' := mX0_takeFrom) (index := 389) (bc := 0) (bs := 0) (bc' := 0) (bs' := 0) (st := []) [.ref (eB E + 1)] ml_X11_389 cv_X0_takeFrom dX11_image_42 (lo.lt 0 rfl) (lo.kd 0 rfl) (by decide) rfl rfl rfl rfl (Nat.le_of_ble_eq_true rfl) ?_
    refine c_tk0 hs1 lo (LO.st hs1) (Or.inr ⟨rfl, hb⟩) bk q.w (fun h2 I2 hs2 e1 e2 e3 e4 bk2 => ?_)
    refine J.iconst (v := 1) dX11_image_45 (by decide) ?_
    exact J.reti dX11_image_46 rfl (bz_nar (Or.inr rfl)) (fin h2 I2 hs2 e1 e2 e3 e4 bk2)
  refine wb_X11_image hs _ (br_c (fun c => ?_) (fun c => hQ0 (fun e => c (r_3.mpr e))))
  obtain ⟨k, hk, rfl⟩ := r_3.mp c
  rw [nI_clamp (show k < 2 ^ 31 by omega)]
  refine ⟨vp_in_nI (by omega) (by decide), fun en => ?_, fun b eb => ?_⟩
  · -- a new book
    refine J.zr fun z0 => ?_
    have m0 : MK h h h.2.2 [] [] [] := ⟨rfl, fun j q hj => by simp at hj, fun q hq => (by cases hq), fun q hq => (by cases hq), fun a _ => ⟨rfl, rfl⟩, fun a i h1 _ _ => (z0 a h1).2 i⟩
    refine mk_new m0 (bc := 44) (bs := 1682) (l := 0) (ks' := [(0, 0)]) rfl rfl cls0 nfl0 cl_X11_9 isX0 inX0 dX11_image_22 (fun h1 m1 => ?_)
    refine J.dup dX11_image_25 rfl ?_
    refine J.less (bc' := 0 + 44) (bs' := 0 + 1682) ?_ (by omega) (by omega)
    refine J.callI (M' := mX0_init) (index := 11) (bc := 0) (bs := 0) (bc' := 44) (bs' := 1682) (st := [.ref (eB E + (h.2.2 + 0))]) [] ml_X11_11 cv_X0_init dX11_image_26 rfl rfl (Nat.le_of_ble_eq_true rfl) ?_
    refine k_X0_init (d := d) (b := h.2.2 + 0) (show h1.2.2 = (h.2.2 + 0) + 1 from m1.1) (m1.z 0 (by decide)) (m1.kd 0 rfl) (fun h2 e2 => ?_)
    have m2 : MK h h2 h.2.2 ksX0 SBX0 [] := MK.app (l := 0) (ks2 := ksX0) (rs2 := SBX0) m1 e2 rfl rfl rfl rfl (fun q hq => by cases hq)
    have hs2 : SL h2 := hs.mk m2 h147
    have hsub : (rsX0.all fun q => (SBX0).contains q) = true := by decide +kernel
    have lo2 : LO h2 h.2.2 ksX0 rsX0 := ⟨by rw [m2.1]; exact Nat.le_refl _, fun j q hj => m2.kd j hj, fun q hq => m2.rf q (by simpa using List.all_eq_true.mp hsub q hq)⟩
    have fI : ∀ a, a < h.2.2 → f_X0 (h.2.2 + 0) I a = I a := fun a ha => f0_lt ha
    generalize f_X0 (h.2.2 + 0) I = I0 at fI ⊢
    show J E mX11_image (d + 4) Q 0 0 29 _ [.ref (eB E + h.2.2)] h2 I0 L
    refine J.astore_n (vs' := [some (.ref (eB E + 0)), some (.int (nI k)), some (.ref (eB E + h.2.2))]) dX11_image_29 rfl (by decide) rfl ?_
    refine J.aload_n dX11_image_30 rfl rfl ?_
    refine J.getR (r := 46) fl_X11_16 rfl dX11_image_31 (lt0 hs2) (kk0 hs2) (rr0_1 hs2) ?_
    refine J.iload_n dX11_image_34 rfl rfl ?_
    refine J.aload_n dX11_image_35 rfl rfl ?_
    refine J.aastB dX11_image_36 (lt46 hs2) (kk46 hs2) (vp_in_nI (by omega) (by decide)) (lo2.lt 0 rfl) (lo2.kd 0 rfl) ?_
    rw [nI_clamp (show k < 2 ^ 31 by omega)]
    have hs3 : SL (uRh h2 46 k (some h.2.2)) := SL_uR hs2 (by decide +kernel)
    have lo3 : LO (uRh h2 46 k (some h.2.2)) h.2.2 ksX0 rsX0 := lo2.cg rfl rfl (fun q hq => uR_ne (by omega))
    have fr2 := m2.2.2.2.2.1
    have ui3 : UI h (uRh h2 46 k (some h.2.2)) I I0 h.2.2 := ⟨by show h.2.2 ≤ h2.2.2; rw [m2.1]; omega, fun a ha => (fr2 a ha).1, fun a ha h46 _ _ _ => (uR_ne h46).trans (fr2 a ha).2, fun a ha _ => fI a ha⟩
    have hap : ∀ t nl nt, LT h t nl nt → t + 7 < h.2.2 ∨ h.2.2 + 37 ≤ t := fun t nl nt lt => by have := lt.1; omega
    have bk3 := ui_Bk hs ui3 hap q.b (by omega) (by omega) (Or.inl rfl)
    have e46 : ∀ j, (uRh h2 46 k (some h.2.2)).2.1 46 j = if j = k then some h.2.2 else h.2.1 46 j := fun j => by
      show uR h2.2.1 46 k (some h.2.2) 46 j = _
      unfold uR
      by_cases e : j = k
      · simp [e]
      · simp [e]; rw [(fr2 46 (by omega)).2]
    refine p37 k h.2.2 _ I0 hk rfl hs3 lo3 h147 bk3 (fun h' I' hs' g1 g2 g3 g4 bk' => ?_)
    have g5 := ui3
    refine hQ1 k h' I' h.2.2 hk rfl hs' ⟨by rw [g2]; exact g5.1, fun a ha => by rw [g1]; exact g5.2.1 a ha, fun a ha a46 a1 a2 a3 => by rw [g3 a a1 a2 a3]; exact g5.2.2.1 a ha a46 a1 a2 a3, fun a ha hb => by rw [g4 a hb]; exact g5.2.2.2 a ha hb⟩ h147 (fun j => by rw [g3 46 (by omega) (by omega) (by omega)]; exact e46 j) (lo3.cg g1 g2 (fun q hq => ?_)) bk' hap (fun c lc => Or.inr (Or.inl lc.1)) (Or.inr ⟨en, rfl⟩)
    have hr : ∀ q ∈ rsX0, q.1 ≠ 33 ∧ q.1 ≠ 34 ∧ q.1 ≠ 35 := by decide
    have := hr q hq
    exact g3 _ (by omega) (by omega) (by omega)
  · rcases ims.1 k hk with ⟨z1, -⟩ | ⟨b', z1, z2, z3, z4, z5, z6⟩
    · rw [z1] at eb; cases eb
    · have eb' : b' = b := Option.some.inj (z1.symm.trans eb)
      subst eb'
      refine J.less (bc' := 0) (bs' := 0) (p37 k b' h I hk rfl hs z4 z3 q.b (fun h' I' hs' g1 g2 g3 g4 bk' => ?_)) (by omega) (by omega)
      refine hQ1 k h' I' b' hk rfl hs' ⟨by rw [g2]; exact Nat.le_refl _, fun a ha => by rw [g1], fun a ha a46 a1 a2 a3 => g3 a a1 a2 a3, fun a ha hb => g4 a hb⟩ z3 (fun j => ?_) (z4.cg g1 g2 (fun q hq => ?_)) bk' (fun t nl nt lt => lt.ap z4) (fun c lc => ?_) (Or.inl z1)
      · rw [g3 46 (by omega) (by omega) (by omega)]
        by_cases e : j = k
        · rw [if_pos e, e]; exact z1
        · rw [if_neg e]
      · have hr : ∀ q ∈ rsX0, q.1 ≠ 33 ∧ q.1 ≠ 34 ∧ q.1 ≠ 35 := by decide
        have := hr q hq
        exact g3 _ (by omega) (by omega) (by omega)
      · by_cases e : c = b'
        · left; rw [e]; exact z1
        · exact Or.inr (lc.ap z4 e)
end IMG
