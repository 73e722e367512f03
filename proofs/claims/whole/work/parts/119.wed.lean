/-! update: wed -/
/-- what an update leaves of the shapes and references -/
def UH (h h' : mS) : Prop := h.2.2 ≤ h'.2.2 ∧ (∀ a, a < h.2.2 → h'.1 a = h.1 a) ∧ ∀ a, a < h.2.2 → a ≠ 34 → a ≠ 35 → a ≠ 36 → h'.2.1 a = h.2.1 a
theorem UH.rf {h : mS} : UH h h := ⟨Nat.le_refl _, fun _ _ => rfl, fun _ _ _ _ _ => rfl⟩
theorem UH.tr {h h' h'' : mS} (u : UH h h') (v : UH h' h'') : UH h h'' :=
  ⟨Nat.le_trans u.1 v.1, fun a ha => (v.2.1 a (Nat.lt_of_lt_of_le ha u.1)).trans (u.2.1 a ha), fun a ha h1 h2 h3 => (v.2.2 a (Nat.lt_of_lt_of_le ha u.1) h1 h2 h3).trans (u.2.2 a ha h1 h2 h3)⟩
theorem UH.r {h : mS} {a i : Nat} {r : Option Nat} (ha : a = 34 ∨ a = 35 ∨ a = 36) : UH h (uRh h a i r) :=
  ⟨Nat.le_refl _, fun _ _ => rfl, fun b _ h1 h2 h3 => by
    show uR h.2.1 a i r b = _
    exact uR_ne (by omega)⟩
theorem LT.uh {h h' : mS} {t nl nt : Nat} (hs : SL h) (w : LT h t nl nt) (u : UH h h') : LT h' t nl nt := by
  have n34 := LT_ne w (k := 7) (kk34 hs)
  have n35 := LT_ne w (k := 7) (kk35 hs)
  have n36 := LT_ne w (k := 7) (kk36 hs)
  obtain ⟨a, ⟨k0, k1, k2, k3, k4, k5, k6, k7⟩, r, n⟩ := w
  have e := u.2.2 t (by omega) n34 n35 n36
  have u1 := u.1
  have u2 := u.2.1
  refine ⟨by omega, ⟨?_, ?_, ?_, ?_, ?_, ?_, ?_, ?_⟩, by rw [e]; exact r, n⟩
  · rw [u2 _ (by omega)]; exact k0
  · rw [u2 _ (by omega)]; exact k1
  · rw [u2 _ (by omega)]; exact k2
  · rw [u2 _ (by omega)]; exact k3
  · rw [u2 _ (by omega)]; exact k4
  · rw [u2 _ (by omega)]; exact k5
  · rw [u2 _ (by omega)]; exact k6
  · rw [u2 _ (by omega)]; exact k7
theorem TRn.uh {h h' : mS} {I V : mI} {t x nl : Nat} (hs : SL h) (w : TRn h I V t x nl) (u : UH h h') : TRn h' I V t x nl :=
  ⟨w.l16, w.LT.uh hs u, w.lo, w.n, w.v, w.ft, w.ac, w.nu, w.su, w.si, w.bo, w.no⟩
theorem TR.uh {h h' : mS} {I V : mI} {t x : Nat} (hs : SL h) (w : TR h I V t x) (u : UH h h') : TR h' I V t x := by
  obtain ⟨nl, w⟩ := w
  exact ⟨nl, w.uh hs u⟩
/-- a text moves with its rows -/
theorem TRn.mv {h : mS} {I V V' : mI} {t x y nl : Nat} (w : TRn h I V t x nl) (e6 : V' 116 y = V 116 x) (er : ∀ a l, a = 117 ∨ a = 118 ∨ a = 119 → l < nl → V' a (16 * y + l) = V a (16 * x + l)) (h4 : ∀ l, l < nl → tcn V (16 * x + l) ≤ 4) (ew : ∀ a l j, a = 120 ∨ a = 121 ∨ a = 122 → l < nl → j < 4 → V' a (4 * (16 * y + l) + j) = V a (4 * (16 * x + l) + j)) : TRn h I V' t y nl := by
  have et : ∀ l, l < nl → tcn V' (16 * y + l) = tcn V (16 * x + l) := fun l hl => by unfold tcn; rw [er 117 l (by omega) hl]
  have ef : ∀ l, l ≤ nl → ftA V' y l = ftA V x l := fun l hl => by unfold ftA; exact fb_sm_cong fun k hk => et k (by omega)
  refine ⟨w.l16, by rw [ef nl (by omega)]; exact w.LT, w.lo, w.n, by rw [e6]; exact w.v, fun l hl => by rw [ef l hl]; exact w.ft l hl, fun l hl => by rw [er 118 l (by omega) hl]; exact w.ac l hl, fun l hl => by rw [er 119 l (by omega) hl]; exact w.nu l hl, fun l j hl hj => ?_, fun l j hl hj => ?_, fun l j hl hj => ?_, fun l j hl hj => ?_⟩
  · have := h4 l hl
    rw [et l hl] at hj
    rw [ef l (by omega), ew 120 l j (by omega) hl (by omega)]; exact w.su l j hl hj
  · have := h4 l hl
    rw [et l hl] at hj
    rw [ef l (by omega), ew 120 l j (by omega) hl (by omega), ew 121 l j (by omega) hl (by omega)]; exact w.si l j hl hj
  · have := h4 l hl
    rw [et l hl] at hj
    rw [ef l (by omega), ew 120 l j (by omega) hl (by omega), ew 122 l j (by omega) hl (by omega)]; exact w.bo l j hl hj
  · have := h4 l hl
    rw [et l hl] at hj
    rw [ef l (by omega), ew 120 l j (by omega) hl (by omega)]; exact w.no l j hl hj
/-- the row that is copied to row r -/
def cpM (v x nl r : Nat) : Nat := if 16 * x ≤ r ∧ r < 16 * x + nl then 16 * v + (r - 16 * x) else r
theorem cpV_o {V : mI} {v x a : Nat} (h : a < 116 ∨ 122 < a) : cpV V v x a = V a := by unfold cpV; exact cpR_o h
theorem cpV_116 {V : mI} {v x i : Nat} : cpV V v x 116 i = if i = x then V 116 v else V 116 i := by unfold cpV; exact cpR_116
theorem cpV_r {V : mI} {v x nl a r : Nat} (e : V 116 v = nI nl) (hn : nl ≤ 16) (h : a = 117 ∨ a = 118 ∨ a = 119) : cpV V v x a r = V a (cpM v x nl r) := by
  unfold cpV cpM
  rw [e, nI_clamp (by omega), cpR_r h]
  by_cases c : 16 * x ≤ r ∧ r < 16 * x + nl
  · rw [if_pos c, if_pos c]
  · rw [if_neg c, if_neg c]
theorem cpV_w {V : mI} {v x nl a r j : Nat} (e : V 116 v = nI nl) (hn : nl ≤ 16) (h : a = 120 ∨ a = 121 ∨ a = 122) (hj : j < 4) : cpV V v x a (4 * r + j) = V a (4 * cpM v x nl r + j) := by
  unfold cpV cpM
  rw [e, nI_clamp (by omega), cpR_w h]
  by_cases c : 16 * x ≤ r ∧ r < 16 * x + nl
  · rw [if_pos (by omega), if_pos c]; congr 1; omega
  · rw [if_neg (by omega), if_neg c]
theorem cpV_cg {V W : mI} {v x a : Nat} (e : ∀ a, 116 ≤ a → a ≤ 122 → W a = V a) (h1 : 116 ≤ a) (h2 : a ≤ 122) : cpV W v x a = cpV V v x a := by
  funext i
  unfold cpV cpR
  simp only [e 116 (by omega) (by omega), e a h1 h2]
theorem cpV_wf {V : mI} (w : WfT V) {v x : Nat} (hv : v < 5) (hx : 7 ≤ x) (hx2 : x < 67) : WfT (cpV V v x) := by
  obtain ⟨nl, n17, e⟩ := w.li v (by omega)
  have hn : nl ≤ 16 := by omega
  have hr : ∀ r, r < 1072 → cpM v x nl r < 1072 := fun r h => by unfold cpM; split <;> omega
  refine ⟨fun y hy => ?_, fun r h => ?_, fun y l hy hl n5 n6 => ?_, fun y l hy hl => ?_, fun r h => ?_, fun r h => ?_, fun q hq => ?_, fun r j h hj => ?_, fun r j h hj => ?_⟩
  · rw [cpV_116]; split
    · exact w.li v (by omega)
    · exact w.li y hy
  · rw [cpV_r e hn (by omega)]; exact w.te _ (hr r h)
  · rw [cpV_r e hn (by omega)]
    unfold cpM
    by_cases c : 16 * x ≤ 16 * y + l ∧ 16 * y + l < 16 * x + nl
    · rw [if_pos c]; exact w.ac v _ (by omega) (by omega) (by omega) (by omega)
    · rw [if_neg c]; exact w.ac y l hy hl n5 n6
  · rw [cpV_116, cpV_r e hn (by omega), if_neg (by omega)]
    unfold cpM
    rw [if_neg (by omega)]
    exact w.aw y l hy hl
  · rw [cpV_r e hn (by omega)]; exact w.nu _ (hr r h)
  · rw [cpV_r e hn (by omega), cpV_r e hn (by omega)]; exact w.nb _ (hr r h)
  · have e4 : q = 4 * (q / 4) + q % 4 := by omega
    rw [e4, cpV_w e hn (by omega) (by omega)]
    have := hr (q / 4) (by omega)
    exact w.wh _ (by omega)
  · rw [cpV_r e hn (by omega), cpV_w e hn (by omega) hj, cpV_w e hn (by omega) hj, cpV_w e hn (by omega) hj]; exact w.fl _ j (hr r h) hj
  · rw [cpV_r e hn (by omega), cpV_w e hn (by omega) hj]; exact w.si _ j (hr r h) hj
theorem tc_4 {V : mI} (w : WfT V) {r : Nat} (h : r < 1072) : tcn V r ≤ 4 := by
  obtain ⟨n, h1, h2⟩ := w.te r h
  unfold tcn
  rw [h2, nI_clamp (by omega)]; omega
/-- the copy stands for the text too -/
theorem TR.cp {h : mS} {I V : mI} {t v x : Nat} (w : TR h I V t v) (wf : WfT V) (hv : v < 67) : TR h I (cpV V v x) t x := by
  obtain ⟨nl, w⟩ := w
  have l16 := w.l16
  refine ⟨nl, w.mv (by rw [cpV_116, if_pos rfl]) (fun a l ha hl => ?_) (fun l hl => tc_4 wf (by omega)) (fun a l j ha hl hj => ?_)⟩
  · rw [cpV_r w.v l16 ha]; unfold cpM; rw [if_pos (by omega)]; congr 1; omega
  · rw [cpV_w w.v l16 ha hj]; unfold cpM; rw [if_pos (by omega)]; congr 1; omega
/-- the others stay -/
theorem TR.cpo {h : mS} {I V : mI} {t v x y : Nat} (w : TR h I V t y) (wf : WfT V) (hy : y < 67) (hv : v < 67) (hne : y ≠ x) : TR h I (cpV V v x) t y := by
  obtain ⟨nl, w⟩ := w
  have l16 := w.l16
  obtain ⟨n, n17, e⟩ := wf.li v hv
  refine ⟨nl, w.mv (by rw [cpV_116, if_neg hne]) (fun a l ha hl => ?_) (fun l hl => tc_4 wf (by omega)) (fun a l j ha hl hj => ?_)⟩
  · rw [cpV_r e (by omega) ha]; unfold cpM; rw [if_neg (by omega)]
  · rw [cpV_w e (by omega) ha hj]; unfold cpM; rw [if_neg (by omega)]
/-- the facts of the day -/
def fcV (V : mI) (m : Nat) (f : Nat → Int32) (k : Nat) : mI := fun a i => if a = 115 ∧ 11 * m ≤ i ∧ i < 11 * m + k then f (i - 11 * m) else V a i
theorem fc_o {V : mI} {m k a : Nat} {f : Nat → Int32} (h : a ≠ 115) : fcV V m f k a = V a := by
  funext i; unfold fcV; rw [if_neg (fun e => h e.1)]
theorem fc_in {V : mI} {m k j : Nat} {f : Nat → Int32} (h : j < k) : fcV V m f k 115 (11 * m + j) = f j := by
  unfold fcV; rw [if_pos ⟨rfl, by omega, by omega⟩]; congr 1; omega
theorem fc_out {V : mI} {m k i : Nat} {f : Nat → Int32} (h : i < 11 * m ∨ 11 * m + k ≤ i) : fcV V m f k 115 i = V 115 i := by
  unfold fcV; rw [if_neg (by omega)]
theorem fc_0 {V : mI} {m : Nat} {f : Nat → Int32} : fcV V m f 0 = V := by
  funext a i; unfold fcV; rw [if_neg (by omega)]
theorem fc_s {V : mI} {m k : Nat} {f : Nat → Int32} : uI (fcV V m f k) 115 (11 * m + k) (f k) = fcV V m f (k + 1) := by
  funext a i
  by_cases c : a = 115
  · subst c
    by_cases e : i = 11 * m + k
    · subst e; rw [uI_eq, fc_in (by omega)]
    · rw [uI_nj e]
      unfold fcV
      by_cases c : 11 * m ≤ i ∧ i < 11 * m + k
      · rw [if_pos ⟨rfl, c⟩, if_pos ⟨rfl, by omega, by omega⟩]
      · rw [if_neg (fun z => c z.2), if_neg (fun z => c (by omega))]
  · rw [uI_ne c, fc_o c, fc_o c]
noncomputable def wdT (W : mI) (m v u : Nat) (f : Nat → Int32) : mI := cpV (cpV (fcV (uI W 112 m (W 110 m)) m f 11) v (7 + 2 * m)) u (8 + 2 * m)
noncomputable def wdP (W : mI) (m b g v u : Nat) (f : Nat → Int32) : mI := uI (uI (uI (uI (uI (clsV (wdT W m v u f) m 2) 101 b (nI g)) 101 g (nI b)) 103 b 1) 103 g 1) 102 b 0
noncomputable def wdW (W : mI) (m b g x y v u : Nat) (f : Nat → Int32) : mI := feuV (wdP W m b g v u f) x y 0
section WD
variable {W : mI} {m b g x y v u a : Nat} {f : Nat → Int32}
theorem wdT_o (h1 : a < 116 ∨ 122 < a) (h2 : a ≠ 115) (h3 : a ≠ 112) : wdT W m v u f a = W a := by
  unfold wdT; rw [cpV_o h1, cpV_o h1, fc_o h2, uI_ne h3]
theorem wdT_t (h1 : 116 ≤ a) (h2 : a ≤ 122) : wdT W m v u f a = cpV (cpV W v (7 + 2 * m)) u (8 + 2 * m) a := by
  unfold wdT
  exact cpV_cg (fun c h3 h4 => cpV_cg (fun e h5 h6 => by rw [fc_o (by omega), uI_ne (by omega)]) h3 h4) h1 h2
theorem wdP_o (h1 : a ≠ 101) (h2 : a ≠ 102) (h3 : a ≠ 103) (h4 : a ≠ 109) (h5 : a ≠ 114) : wdP W m b g v u f a = wdT W m v u f a := by
  unfold wdP
  rw [uI_ne h2, uI_ne h3, uI_ne h3, uI_ne h1, uI_ne h1, cls_o h4 h5]
theorem wd_o (h0 : a < 116 ∨ 122 < a) (h1 : a ≠ 101) (h2 : a ≠ 102) (h3 : a ≠ 103) (h4 : a ≠ 109) (h5 : a ≠ 114) (h6 : a ≠ 94) (h7 : a ≠ 115) (h8 : a ≠ 112) : wdW W m b g x y v u f a = W a := by
  unfold wdW
  rw [feu_o h6, wdP_o h1 h2 h3 h4 h5, wdT_o h0 h7 h8]
theorem wd_t (h1 : 116 ≤ a) (h2 : a ≤ 122) : wdW W m b g x y v u f a = cpV (cpV W v (7 + 2 * m)) u (8 + 2 * m) a := by
  unfold wdW
  rw [feu_o (by omega), wdP_o (by omega) (by omega) (by omega) (by omega) (by omega), wdT_t h1 h2]
theorem wd_94 : wdW W m b g x y v u f 94 = upd (upd (W 94) x (fwX 0 y (W 94 x))) y (fwX 0 x (W 94 y)) := by
  unfold wdW feuV
  rw [wdP_o (by decide) (by decide) (by decide) (by decide) (by decide), wdT_o (by decide) (by decide) (by decide), uI_at, uI_at, wdP_o (by decide) (by decide) (by decide) (by decide) (by decide), wdT_o (by decide) (by decide) (by decide)]
theorem wd_101 : wdW W m b g x y v u f 101 = upd (upd (W 101) b (nI g)) g (nI b) := by
  unfold wdW wdP
  rw [feu_o (by decide), uI_ne (by decide), uI_ne (by decide), uI_ne (by decide), uI_at, uI_at, cls_o (by decide) (by decide), wdT_o (by decide) (by decide) (by decide)]
theorem wd_102 : wdW W m b g x y v u f 102 = upd (W 102) b 0 := by
  unfold wdW wdP
  rw [feu_o (by decide), uI_at, uI_ne (by decide), uI_ne (by decide), uI_ne (by decide), uI_ne (by decide), cls_o (by decide) (by decide), wdT_o (by decide) (by decide) (by decide)]
theorem wd_103 : wdW W m b g x y v u f 103 = upd (upd (W 103) b 1) g 1 := by
  unfold wdW wdP
  rw [feu_o (by decide), uI_ne (by decide), uI_at, uI_at, uI_ne (by decide), uI_ne (by decide), cls_o (by decide) (by decide), wdT_o (by decide) (by decide) (by decide)]
theorem wd_109 : wdW W m b g x y v u f 109 = upd (W 109) m 2 := by
  unfold wdW wdP
  rw [feu_o (by decide), uI_ne (by decide), uI_ne (by decide), uI_ne (by decide), uI_ne (by decide), uI_ne (by decide), cls_109, wdT_o (by decide) (by decide) (by decide)]
theorem wd_114 : wdW W m b g x y v u f 114 = upd (W 114) m (W 88 0) := by
  unfold wdW wdP
  rw [feu_o (by decide), uI_ne (by decide), uI_ne (by decide), uI_ne (by decide), uI_ne (by decide), uI_ne (by decide), cls_114, wdT_o (by decide) (by decide) (by decide), wdT_o (by decide) (by decide) (by decide)]
theorem wd_112 : wdW W m b g x y v u f 112 = upd (W 112) m (W 110 m) := by
  unfold wdW
  rw [feu_o (by decide), wdP_o (by decide) (by decide) (by decide) (by decide) (by decide)]
  unfold wdT
  rw [cpV_o (by decide), cpV_o (by decide), fc_o (by decide), uI_at]
theorem wd_115 : wdW W m b g x y v u f 115 = fcV W m f 11 115 := by
  unfold wdW
  rw [feu_o (by decide), wdP_o (by decide) (by decide) (by decide) (by decide) (by decide)]
  unfold wdT
  rw [cpV_o (by decide), cpV_o (by decide)]
  funext i
  unfold fcV
  rw [uI_ne (by decide)]
theorem wd_M : cM (wdW W m b g x y v u f) = cM W := by unfold cM; rw [wd_o (by decide) (by decide) (by decide) (by decide) (by decide) (by decide) (by decide) (by decide) (by decide)]
theorem wd_P : cP (wdW W m b g x y v u f) = cP W := by unfold cP; rw [wd_o (by decide) (by decide) (by decide) (by decide) (by decide) (by decide) (by decide) (by decide) (by decide)]
theorem wd_H : cH (wdW W m b g x y v u f) = cH W := by unfold cH; rw [wd_o (by decide) (by decide) (by decide) (by decide) (by decide) (by decide) (by decide) (by decide) (by decide)]
theorem wd_op {k : Nat} : opB (wdW W m b g x y v u f) k = if k = m then false else opB W k := by
  unfold opB
  rw [wd_109]
  unfold upd
  by_cases e : k = m
  · rw [if_pos e, if_pos e]; rfl
  · rw [if_neg e, if_neg e]
theorem wd_has {k p : Nat} : hasB (wdW W m b g x y v u f) p k = if k = m then false else hasB W p k := by
  unfold hasB
  rw [wd_op, wd_o (a := 107) (by decide) (by decide) (by decide) (by decide) (by decide) (by decide) (by decide) (by decide) (by decide), wd_o (a := 108) (by decide) (by decide) (by decide) (by decide) (by decide) (by decide) (by decide) (by decide) (by decide)]
  by_cases e : k = m
  · rw [if_pos e, if_pos e]; rfl
  · rw [if_neg e, if_neg e]
theorem wd_opA (w : Wf W) (hm : m < cM W) (p : Nat) : opA (wdW W m b g x y v u f) p = if hasB W p m = true then (-1) else opA W p := by
  by_cases c : hasB W p m = true
  · rw [if_pos c]
    unfold opA
    refine fstI_n fun k hk => ?_
    rw [wd_M] at hk
    rw [wd_has]
    by_cases e : k = m
    · rw [if_pos e]
    · rw [if_neg e]
      cases c2 : hasB W p k with
      | false => rfl
      | true => exact absurd (own_one w hm hk c c2).symm e
  · rw [if_neg c]
    have : hasB (wdW W m b g x y v u f) p = hasB W p := by
      funext k
      rw [wd_has]
      by_cases e : k = m
      · rw [if_pos e, e]; simp at c; exact c.symm
      · rw [if_neg e]
    unfold opA
    rw [this, wd_M]
theorem wd_fd (hx : x < 8) (hy : y < 8) (hne : x ≠ y) (i j : Nat) : fdB (wdW W m b g x y v u f) i j = if (i = x ∧ j = y) ∨ (i = y ∧ j = x) then false else fdB W i j := by
  have e : fdB (wdW W m b g x y v u f) i j = fdB (feuV W x y 0) i j := by
    unfold fdB
    rw [wd_94]
    unfold feuV
    rw [uI_at, uI_at]
  rw [e, feu_fd hx hy hne]
  simp
theorem wd_wH (w : WfH W) (hx : x < 8) (hy : y < 8) (hne : x ≠ y) : WfH (wdW W m b g x y v u f) := by
  refine ⟨by rw [wd_H, wd_o (by decide) (by decide) (by decide) (by decide) (by decide) (by decide) (by decide) (by decide) (by decide)]; exact w.n, by rw [wd_H]; exact w.n8, fun i hi => by rw [wd_o (by decide) (by decide) (by decide) (by decide) (by decide) (by decide) (by decide) (by decide) (by decide)]; exact w.vil i hi, fun i j hi hj => ?_, fun i hi => ?_, fun i j hi hh => ?_⟩
  · rw [wd_fd hx hy hne, wd_fd hx hy hne, w.fs i j hi hj]
    by_cases c : (i = x ∧ j = y) ∨ (i = y ∧ j = x)
    · rw [if_pos c, if_pos (by omega)]
    · rw [if_neg c, if_neg (by omega)]
  · rw [wd_fd hx hy hne, if_neg (by omega)]
    exact w.fd i hi
  · rw [wd_fd hx hy hne] at hh
    rw [wd_H]
    by_cases c : (i = x ∧ j = y) ∨ (i = y ∧ j = x)
    · rw [if_pos c] at hh; exact absurd hh (by decide)
    · rw [if_neg c] at hh; exact w.fb i j hi hh
theorem wd_wP (w : WfP W) (hb : b < cP W) (hg : g < cP W) : WfP (wdW W m b g x y v u f) := by
  have o : ∀ {a}, a = 95 ∨ a = 96 ∨ a = 97 ∨ a = 98 ∨ a = 99 ∨ a = 100 → wdW W m b g x y v u f a = W a := fun h => wd_o (by omega) (by omega) (by omega) (by omega) (by omega) (by omega) (by omega) (by omega) (by omega)
  refine ⟨by rw [wd_P, o (by decide)]; exact w.n, by rw [wd_P]; exact w.n20, by rw [o (by decide)]; exact w.hou, by rw [o (by decide)]; exact w.kin, by rw [o (by decide)]; exact w.sta, by rw [o (by decide)]; exact w.bor, by rw [o (by decide)]; exact w.dea, fun i hi => ?_, fun i hi => ?_, fun i hi => ?_⟩
  · rw [wd_102]; unfold upd; split
    · exact Or.inl rfl
    · exact w.wid i hi
  · rw [wd_103]; unfold upd; split
    · exact Or.inr rfl
    · split
      · exact Or.inr rfl
      · exact w.eve i hi
  · rw [wd_P] at hi
    rw [wd_101, wd_P]; unfold upd; split
    · exact Or.inr ⟨b, hb, rfl⟩
    · split
      · exact Or.inr ⟨g, hg, rfl⟩
      · exact w.spo i hi
theorem wd_wM (w : WfM W) : WfM (wdW W m b g x y v u f) := by
  have o : ∀ {a}, a = 106 ∨ a = 107 ∨ a = 108 ∨ a = 110 ∨ a = 111 ∨ a = 97 → wdW W m b g x y v u f a = W a := fun h => wd_o (by omega) (by omega) (by omega) (by omega) (by omega) (by omega) (by omega) (by omega) (by omega)
  refine ⟨by rw [wd_M, o (by decide)]; exact w.n, by rw [wd_M]; exact w.n30, fun k hk => ?_, fun k hk => ?_, fun k hk => ?_, fun k hk => ?_, fun k hk => ?_, fun k hk => ?_, fun k hk => ?_, fun k j hk hj => ?_⟩
  · rw [wd_M] at hk; rw [wd_P, o (by decide), o (by decide)]; exact w.bri k hk
  · rw [wd_M] at hk; rw [wd_P, o (by decide), o (by decide)]; exact w.gro k hk
  · rw [wd_M] at hk; rw [wd_109]; unfold upd; split
    · exact ⟨2, by decide, rfl⟩
    · exact w.sta k hk
  · rw [wd_M] at hk; rw [o (by decide)]; exact w.gif k hk
  · rw [wd_M] at hk; rw [o (by decide)]; exact w.bac k hk
  · rw [wd_M] at hk; rw [wd_109, wd_112]; unfold upd
    by_cases e : k = m
    · rw [if_pos e, if_pos e]; intro z; exact absurd z (by decide)
    · rw [if_neg e, if_neg e]; exact w.pa0 k hk
  · rw [wd_M] at hk; rw [wd_109, wd_112, o (by decide)]; unfold upd
    by_cases e : k = m
    · rw [if_pos e, if_pos e]; intro z; exact absurd z (by decide)
    · rw [if_neg e, if_neg e]; exact w.pa1 k hk
  · rw [wd_M] at hk hj
    rw [wd_op, wd_op, o (by decide), o (by decide)]
    intro h1 h2
    by_cases e1 : k = m
    · rw [if_pos e1] at h1; exact absurd h1 (by decide)
    · by_cases e2 : j = m
      · rw [if_pos e2] at h2; exact absurd h2 (by decide)
      · rw [if_neg e1] at h1; rw [if_neg e2] at h2
        exact w.one k j hk hj h1 h2
theorem wd_wT (w : WfT W) (hv : v < 5) (hu : u < 5) (hm : m < 30) : WfT (wdW W m b g x y v u f) :=
  (cpV_wf (cpV_wf w hv (show 7 ≤ 7 + 2 * m by omega) (by omega)) hu (show 7 ≤ 8 + 2 * m by omega) (by omega)).cv (fun a ha => wd_t (by omega) (by omega))
theorem wd_wW (w : WfW W) (fz : ∀ j, j < 5 → bz (f j)) : WfW (wdW W m b g x y v u f) := by
  intro k j hk hj
  rw [wd_115]
  by_cases e : k = m
  · subst e; rw [fc_in (by omega)]; exact fz j hj
  · rw [fc_out (by omega)]; exact w k j hk hj
end WD
