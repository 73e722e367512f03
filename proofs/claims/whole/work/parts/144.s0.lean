/-! updates write in slot 0 alone -/
def S0 (V V' : mI) : Prop := ∀ a i, sz a ≤ i → V' a i = V a i
theorem S0.rf {V : mI} : S0 V V := fun _ _ _ => rfl
theorem S0.tr {U V W : mI} (h : S0 U V) (k : S0 V W) : S0 U W := fun a i hi => (k a i hi).trans (h a i hi)
theorem S0.u {V : mI} {a i : Nat} {x : Int32} (hi : i < sz a) : S0 V (uI V a i x) := fun b j hj => by
  by_cases e : b = a
  · subst e; exact uI_nj (by omega)
  · rw [uI_ne e]
theorem S0.slot {V V' : mI} (h : S0 V V') {s : Nat} (hs : 1 ≤ s) : slV V' s = slV V s := by
  funext a i
  unfold slV
  refine h a _ ?_
  have : sz a * 1 ≤ sz a * s := Nat.mul_le_mul_left _ hs
  omega
theorem S0.c {V : mI} {p : Prop} {x y : Int32 × mI} (h1 : p → S0 V x.2) (h2 : ¬ p → S0 V y.2) : S0 V (cip p x y).2 := by
  by_cases c : p
  · rw [cip_t c]; exact h1 c
  · rw [cip_f c]; exact h2 c
section SZ
variable {V : mI}
theorem inN.lt {x : Int32} {n m : Nat} (h : inN x n) (hn : n ≤ m) (h2 : m < 2 ^ 31) : x.toNatClampNeg < m := by
  obtain ⟨j, hj, rfl⟩ := h
  rw [nI_clamp (by omega)]; omega
theorem s0_har (w : Wf V) {p x : Int32} : S0 V (harN V p x).2 := S0.c (fun c => S0.u (c.1.lt w.H.n8 (by decide))) (fun _ => S0.rf)
theorem s0_yea : S0 V (yeaN V).2 := S0.c (fun _ => S0.u (by decide)) (fun _ => S0.rf)
theorem s0_hou {c v x : Int32} : S0 V (houN V c v x).2 := S0.c (fun c => S0.tr (S0.tr (S0.tr (S0.tr (S0.u (by decide)) (S0.u c.1)) (S0.u c.1)) (S0.u c.1)) (S0.u c.1)) (fun _ => S0.rf)
theorem s0_per {p k s y : Int32} : S0 V (perN V p k s y).2 := S0.c (fun c => S0.tr (S0.tr (S0.tr (S0.tr (S0.tr (S0.tr (S0.tr (S0.tr (S0.u (by decide)) (S0.u c.1)) (S0.u c.1)) (S0.u c.1)) (S0.u c.1)) (S0.u c.1)) (S0.u c.1)) (S0.u c.1)) (S0.u c.1)) (fun _ => S0.rf)
theorem s0_roa {a b x : Int32} : S0 V (roaN V a b x).2 := S0.c (fun c => by
  have h1 := c.1.lt (Nat.le_refl _) (by decide)
  have h2 := c.2.1.lt (Nat.le_refl _) (by decide)
  exact S0.tr (S0.u (show 5 * a.toNatClampNeg + b.toNatClampNeg < 25 by omega)) (S0.u (show 5 * b.toNatClampNeg + a.toNatClampNeg < 25 by omega))) (fun _ => S0.rf)
theorem s0_feuV {a b : Nat} {x : Int32} (ha : a < 8) (hb : b < 8) : S0 V (feuV V a b x) := S0.tr (S0.u ha) (S0.u hb)
theorem s0_feu (w : Wf V) {a b x : Int32} : S0 V (feuN V a b x).2 := S0.c (fun c => s0_feuV (c.1.lt w.H.n8 (by decide)) (c.2.1.lt w.H.n8 (by decide))) (fun _ => S0.rf)
theorem s0_prt {c f v : Int32} : S0 V (prtN V c f v).2 := S0.c (fun c => by
  have h1 := c.1
  exact S0.tr (S0.tr (S0.tr (S0.tr (S0.u (show 4 * cN V < 240 by omega)) (S0.u (show 4 * cN V + 1 < 240 by omega))) (S0.u (show 4 * cN V + 2 < 240 by omega))) (S0.u (show 4 * cN V + 3 < 240 by omega))) (S0.u (by decide))) (fun _ => S0.rf)
theorem s0_st {z : Int32} (h : cT V < 500) : S0 V (stV V z) := S0.tr (S0.u h) (S0.u (by decide))
theorem s0_wr (w : WfS V) {x : Int32} (hT : cT V ≤ 496) : S0 V (wrV V x) := by
  have t1 := (st_T (z := by_ x 24) w (by omega)).1
  have w1 := st_wf (z := by_ x 24) w (by omega) (by_r _ _)
  have t2 := (st_T (z := by_ x 16) w1 (by omega)).1
  have w2 := st_wf (z := by_ x 16) w1 (by omega) (by_r _ _)
  have t3 := (st_T (z := by_ x 8) w2 (by omega)).1
  exact S0.tr (S0.tr (S0.tr (s0_st (by omega)) (s0_st (by omega))) (s0_st (by omega))) (s0_st (by omega))
theorem s0_fee (w : Wf V) {a b c e f : Int32} : S0 V (feeN V a b c e f).2 := S0.c (fun c0 => by
  obtain ⟨w1, t1⟩ := wr_T (x := a) w.S (by omega)
  obtain ⟨w2, t2⟩ := wr_T (x := b) w1 (by omega)
  obtain ⟨w3, t3⟩ := wr_T (x := c) w2 (by omega)
  obtain ⟨w4, t4⟩ := wr_T (x := e) w3 (by omega)
  exact S0.tr (S0.tr (S0.tr (S0.tr (s0_wr w.S (by omega)) (s0_wr w1 (by omega))) (s0_wr w2 (by omega))) (s0_wr w3 (by omega))) (s0_wr w4 (by omega))) (fun _ => S0.rf)
theorem s0_cls {m : Nat} {s : Int32} (hm : m < 30) : S0 V (clsV V m s) := S0.tr (S0.u hm) (S0.u hm)
theorem s0_brY (w : Wf V) {p : Nat} (hp : p < cP V) : S0 V (brY V p) := by
  have n20 := w.P.n20
  have p20 : p < 20 := by omega
  unfold brY
  by_cases c : V 101 p = (-1)
  · rw [cif_t c]; exact S0.u p20
  · rw [cif_f c]
    have s20 : (V 101 p).toNatClampNeg < 20 := by
      rcases w.P.spo p hp with e | e
      · exact absurd e c
      · exact e.lt n20 (by decide)
    exact S0.tr (S0.tr (S0.tr (S0.u p20) (S0.u s20)) (S0.u p20)) (S0.u s20)
theorem s0_die (w : Wf V) {p : Int32} : S0 V (dieN V p).2 := S0.c (fun c => by
  have n20 := w.P.n20
  have n30 := w.M.n30
  have c1 := c.1
  obtain ⟨j, hj, rfl⟩ := c1
  have e : (nI j).toNatClampNeg = j := nI_clamp (by omega)
  show S0 V (dieV V (nI j).toNatClampNeg)
  rw [e]
  unfold dieV
  by_cases c2 : opA V j = (-1)
  · rw [cif_t c2]; exact s0_brY w hj
  · rw [cif_f c2]
    refine S0.tr (s0_brY w hj) (s0_cls ?_)
    rcases opA_c V j with ⟨e, -⟩ | ⟨m, m1, -, -, e⟩
    · exact absurd e c2
    · rw [e, nI_clamp (by omega)]; omega) (fun _ => S0.rf)
theorem s0_pay {x y : Nat} {z : Int32} (hx : x < 8) (hy : y < 8) : S0 V (payV V x y z) := S0.tr (S0.u hx) (S0.u hy)
theorem s0_prm (w : Wf V) {m : Int32} : S0 V (prmN V m).2 := S0.c (fun c => by
  have n20 := w.P.n20
  have n30 := w.M.n30
  have c1 := c.1
  obtain ⟨j, hj, rfl⟩ := c1
  have e : (nI j).toNatClampNeg = j := nI_clamp (by omega)
  show S0 V (prmV V (nI j).toNatClampNeg)
  rw [e]
  obtain ⟨b1, -, -⟩ := mb_ok w hj
  obtain ⟨g1, -, -⟩ := mg_ok w hj
  have hj30 : j < 30 := by omega
  exact S0.tr (s0_pay (hN_ok w (by omega)).1 (hN_ok w (by omega)).1) (S0.tr (S0.u hj30) (s0_cls hj30))) (fun _ => S0.rf)
theorem s0_brk (w : Wf V) {m x : Int32} : S0 V (brkN V m x).2 := S0.c (fun c => by
  have n20 := w.P.n20
  have n30 := w.M.n30
  have c1 := c.1
  obtain ⟨j, hj, rfl⟩ := c1
  have e : (nI j).toNatClampNeg = j := nI_clamp (by omega)
  rw [e]
  obtain ⟨b1, -, -⟩ := mb_ok w hj
  obtain ⟨g1, -, -⟩ := mg_ok w hj
  have hj30 : j < 30 := by omega
  exact S0.c (fun _ => s0_cls hj30) (fun _ => S0.c (fun _ => S0.tr (S0.tr (s0_pay (hN_ok w (by omega)).1 (hN_ok w (by omega)).1) (S0.u hj30)) (s0_cls hj30)) (fun _ => S0.rf))) (fun _ => S0.rf)
theorem s0_ask {b g : Int32} : S0 V (askN V b g).2 := S0.c (fun c => by
  have h1 := c.1
  exact S0.tr (S0.tr (S0.tr (S0.tr (S0.tr (S0.tr (S0.tr (S0.u (by decide)) (S0.u h1)) (S0.u h1)) (S0.u h1)) (S0.u h1)) (S0.u h1)) (S0.u h1)) (s0_cls h1)) (fun _ => S0.rf)
theorem s0_end {x : Int32} : S0 V (endN V x).2 := S0.c (fun _ => S0.u (by decide)) (fun _ => S0.rf)
theorem s0_cpV (w : WfT V) {v x : Nat} (hv : v < 67) (hx : x < 67) : S0 V (cpV V v x) := fun a i hi => by
  obtain ⟨nl, n17, e⟩ := w.li v hv
  unfold cpV
  rw [e, nI_clamp (by omega)]
  unfold cpR
  by_cases c1 : a = 116
  · subst c1
    have : 67 ≤ i := hi
    rw [if_pos rfl, if_neg (by omega)]
  · rw [if_neg c1]
    by_cases c2 : a = 117 ∨ a = 118 ∨ a = 119
    · have h1 : 1072 ≤ i := by rcases c2 with rfl | rfl | rfl <;> exact hi
      rw [if_pos c2, if_neg (by omega)]
    · rw [if_neg c2]
      by_cases c3 : a = 120 ∨ a = 121 ∨ a = 122
      · have h1 : 4288 ≤ i := by rcases c3 with rfl | rfl | rfl <;> exact hi
        rw [if_pos c3, if_neg (by omega)]
      · rw [if_neg c3]
theorem s0_fc {m : Nat} {f : Nat → Int32} (hm : m < 30) : S0 V (fcV V m f 11) := fun a i hi => by
  unfold fcV
  rw [if_neg]
  rintro ⟨rfl, h1, h2⟩
  have : 330 ≤ i := hi
  omega
theorem s0_wdW (w : WfT V) {m b g x y v u : Nat} {f : Nat → Int32} (hm : m < 30) (hb : b < 20) (hg : g < 20) (hx : x < 8) (hy : y < 8) (hv : v < 5) (hu : u < 5) : S0 V (wdW V m b g x y v u f) := by
  have w1 : WfT (fcV (uI V 112 m (V 110 m)) m f 11) := w.cv (fun a ha => by rw [fc_o (by omega), uI_ne (by omega)])
  have w2 := cpV_wf w1 hv (show 7 ≤ 7 + 2 * m by omega) (by omega)
  refine S0.tr ?_ (s0_feuV hx hy)
  refine S0.tr (S0.tr (S0.tr (S0.tr (S0.tr (S0.tr (S0.tr (S0.tr (S0.tr (S0.u hm) (s0_fc hm)) (s0_cpV w1 (by omega) (show 7 + 2 * m < 67 by omega))) (s0_cpV w2 (by omega) (show 8 + 2 * m < 67 by omega))) (s0_cls hm)) (S0.u hb)) (S0.u hg)) (S0.u hb)) (S0.u hg)) (S0.u hb)
theorem s0_wed (w : Wf V) {m : Int32} : S0 V (wedN V m).2 := S0.c (fun c => by
  have n20 := w.P.n20
  have n30 := w.M.n30
  have c1 := c.1
  obtain ⟨j, hj, rfl⟩ := c1
  have e : (nI j).toNatClampNeg = j := nI_clamp (by omega)
  show S0 V (wedX V (nI j).toNatClampNeg)
  rw [e]
  obtain ⟨b1, -, -⟩ := mb_ok w hj
  obtain ⟨g1, -, -⟩ := mg_ok w hj
  have x1 := (hN_ok w (p := mbN V j) (by omega)).1
  have x2 := (hN_ok w (p := mgN V j) (by omega)).1
  unfold wedX
  refine S0.tr (s0_pay x2 x1) (s0_wdW (w.T.cv (fun a ha => pay_o (by omega))) (by omega) (by omega) (by omega) x1 x2 (vN_ok w (by omega)).1 (vN_ok w (by omega)).1)) (fun _ => S0.rf)
theorem s0_z {f p : Int32} : S0 V (txZ V f p) := S0.tr (S0.tr (S0.u (by decide)) (S0.u (by decide))) (S0.u (by decide))
theorem s0_txR {a : mI} {x nl : Nat} (hx : x < 7) (hn : nl ≤ 16) (ht : ∀ l, l < nl → tcA a l ≤ 4) : S0 V (txR V a x nl nl 0) := fun c i hi => by
  by_cases c2 : c = 117 ∨ c = 118 ∨ c = 119
  · have h1 : 1072 ≤ i := by rcases c2 with rfl | rfl | rfl <;> exact hi
    rw [txR_r c2, if_neg (by omega)]
  · by_cases c3 : c = 120 ∨ c = 121 ∨ c = 122
    · have h1 : 4288 ≤ i := by rcases c3 with rfl | rfl | rfl <;> exact hi
      rw [txR_w c3, if_neg (by omega)]
    · rw [txR_o (by omega)]
theorem s0_tex {A : mI} {x : Int32} : S0 V (texN V A x).2 := S0.c (fun c => by
  obtain ⟨x, hx, rfl⟩ := c
  have e : (nI x).toNatClampNeg = x := nI_clamp (by omega)
  show S0 V (txG V A (nI x).toNatClampNeg).2
  rw [e]
  unfold txG
  by_cases c1 : (txF V A x).1 = false
  · rw [if_pos c1]; exact s0_z
  · rw [if_neg c1]
    have ct : (txF V A x).1 = true := by simpa using c1
    by_cases c2 : (txF V A x).2.lf = 0
    · rw [if_neg (fun z => z c2)]
      have po : POf (bI (¬ nI x < 5)) (txF V A x).2 := tx_PO (fun _ => ⟨show (0 : Nat) ≤ 16 by decide, fun l hl => absurd (show l < 0 from hl) (Nat.not_lt_zero _)⟩) ct
      obtain ⟨n16, rows⟩ := po c2
      refine S0.tr (S0.tr s0_z (S0.u (show x < 67 by omega))) (s0_txR hx n16 (fun l hl => ?_))
      obtain ⟨⟨t, t4, et, -⟩, -⟩ := rows l hl
      unfold tcA; rw [et, nI_clamp (by omega)]; exact t4
    · rw [if_pos c2]; exact s0_z) (fun _ => s0_z)
end SZ
