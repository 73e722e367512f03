/-! a text is read -/
def tsB (V : mI) (q : Nat) (v : Int32) : Prop := (V 121 q = 60 ∧ ¬ V 122 q ≤ v) ∨ (¬ V 121 q = 60 ∧ ((V 121 q = 62 ∧ ¬ v ≤ V 122 q) ∨ (¬ V 121 q = 62 ∧ v = V 122 q)))
def wN (V : mI) (q : Nat) : Nat := (V 120 q &&& 15).toNatClampNeg
def tsF (V : mI) (q : Nat) (f : Nat → Int32) : Prop := tsB V q (f (wN V q)) ↔ ¬ V 120 q ≤ 15
def lnH (V : mI) (r : Nat) (f : Nat → Int32) : Prop := ∀ j, j < tcn V r → ¬ tsF V (4 * r + j) f
noncomputable def rdU (V : mI) (r l : Nat) (s : Int32 × Int32 × Int32 × Int32) : Int32 × Int32 × Int32 × Int32 :=
  (if V 118 r = 0 then (if s.1 = (-1) then nI l else s.1) else s.1, s.2.1 + (if V 118 r = 1 then V 119 r else 0), if V 118 r = 2 then V 119 r else s.2.2.1, s.2.2.2 + (if V 118 r = 3 then V 119 r else if V 118 r = 4 then -V 119 r else 0))
noncomputable def rdF (V : mI) (x : Nat) (f : Nat → Int32) : Nat → Int32 × Int32 × Int32 × Int32
  | 0 => ((-1), 0, 0, 0)
  | l + 1 => cif (lnH V (16 * x + l) f) (rdU V (16 * x + l) l (rdF V x f l)) (rdF V x f l)
noncomputable def rdA (V : mI) (x : Nat) (f : Nat → Int32) : Int32 × Int32 × Int32 × Int32 := rdF V x f (V 116 x).toNatClampNeg
theorem w15 : ∀ w, w < 11 → nI w &&& 15 = nI w ∧ nI (w + 16) &&& 15 = nI w ∧ nI w ≤ 15 ∧ ¬ nI (w + 16) ≤ 15 := by decide +kernel
theorem wN_ok {V : mI} (w : Wf V) {q : Nat} (hq : q < 4288) : wN V q < 11 ∧ (V 120 q &&& 15) = nI (wN V q) := by
  obtain ⟨k, hk, e | e⟩ := w.T.wh q hq
  · unfold wN; rw [e, (w15 k hk).1, nI_clamp (by omega)]; exact ⟨hk, rfl⟩
  · unfold wN; rw [e, (w15 k hk).2.1, nI_clamp (by omega)]; exact ⟨hk, rfl⟩
theorem tcn_ok {V : mI} (w : Wf V) {r : Nat} (hr : r < 1072) : tcn V r < 5 ∧ V 117 r = nI (tcn V r) := (w.T.te r hr).nat (by decide)
theorem bI_iff {p q : Prop} [Decidable p] [Decidable q] : bI p = bI q ↔ (p ↔ q) := by
  by_cases hp : p <;> by_cases hq : q <;> simp [hp, hq, bI]
theorem ftA_succ {V : mI} {x l : Nat} : ftA V x (l + 1) = ftA V x l + tcn V (16 * x + l) := rfl
theorem ftA_le {V : mI} (w : Wf V) {x : Nat} (hx : x < 67) : ∀ l, l ≤ 16 → ftA V x l ≤ 4 * l := by
  intro l
  induction l with
  | zero => intro _; exact Nat.le_refl _
  | succ l ih =>
    intro hl
    have := ih (by omega)
    have := (tcn_ok w (r := 16 * x + l) (by omega)).1
    rw [ftA_succ]
    omega
theorem ftA_mono {V : mI} {x l k : Nat} (h : l ≤ k) : ftA V x l ≤ ftA V x k := by
  have := fb_sm_mono (fun i => tcn V (16 * x + i)) l (k - l)
  rw [show l + (k - l) = k by omega] at this
  exact this
theorem ft_find {V : mI} {x : Nat} : ∀ {nl q : Nat}, q < ftA V x nl → ∃ l j, l < nl ∧ j < tcn V (16 * x + l) ∧ q = ftA V x l + j := by
  intro nl
  induction nl with
  | zero => intro q h; exact absurd h (Nat.not_lt_zero _)
  | succ n ih =>
    intro q h
    by_cases c : q < ftA V x n
    · obtain ⟨l, j, h1, h2, h3⟩ := ih c
      exact ⟨l, j, by omega, h2, h3⟩
    · rw [ftA_succ] at h
      exact ⟨n, q - ftA V x n, by omega, by omega, by omega⟩
section RB
variable {E : Envt} {d : Nat} {Q : Pst} {h : mS} {I V : mI} {L : mL}
theorem m_holds (hs : SL h) (w : Wf V) (hV : MV I V) {r : Nat} (hr : r < 1072) (hQ : Q (some (.int (cif (lnH V r (I 133)) 1 0))) h I L) : (CT E mX12_holds d 0 0 [.ref (eB E + 83), .int (nI r)] h I L Q) := by
  refine w_X12_holds hs _ ?_
  obtain ⟨h5, e117⟩ := tcn_ok w hr
  rw [N4, pk_mul]
  have K : ∀ j, j ≤ tcn V r → (∀ i, i < j → ¬ tsF V (4 * r + i) (I 133)) → (J E mX12_holds d Q 0 0 4 [some (.ref (eB E + 83)), some (.int (nI r)), some (.int (nI (4 * r + j))), none, none, none] [] h I L) := by
    refine dn (tcn V r) ?_ ?_
    · intro hno
      refine w_X12_holds_4 hs _ _ ⟨vp_in_nI (by omega) (by decide), ?_⟩
      rw [nI_clamp (by omega), hV 117 (by decide) (by decide), e117, N4, pk_mul, nI_add]
      rw [cif_t (show lnH V r (I 133) from hno)] at hQ
      exact br_t (nI_le (Nat.le_refl _) (by omega)) hQ
    · intro j hj ih hno
      refine w_X12_holds_4 hs _ _ ⟨vp_in_nI (by omega) (by decide), ?_⟩
      obtain ⟨g1, g2⟩ := wN_ok w (q := 4 * r + j) (by omega)
      rw [nI_clamp (show r < 2 ^ 31 by omega), nI_clamp (show 4 * r + j < 2 ^ 31 by omega), hV 117 (by decide) (by decide), hV 120 (by decide) (by decide), hV 121 (by decide) (by decide), hV 122 (by decide) (by decide), e117, N4, pk_mul, nI_add, g2, nI_clamp (show wN V (4 * r + j) < 2 ^ 31 by omega), nI_1]
      refine br_f (nI_ge (by omega) (by omega)) ⟨vp_in_nI (by omega) (by decide), vp_in_nI g1 (by decide), ?_⟩
      rintro y5 rfl
      rintro y6 rfl
      refine br_c (fun c => ?_) (fun c => ?_)
      · rw [bI_iff] at c
        have : ¬ lnH V r (I 133) := fun hh => hh j hj c
        rw [cif_f this] at hQ
        exact hQ
      · rw [bI_iff] at c
        exact ih (lt_s hno c)
  exact K 0 (by omega) (fun i hi => absurd hi (by omega))
theorem m_readBy (hs : SL h) (w : Wf V) (hV : MV I V) {x : Nat} (hx : x < 67) (hQ : ∀ I', (∀ a, a ≠ 83 → I' a = I a) → (∀ j, j < 62 ∨ 65 < j → I' 83 j = I 83 j) → I' 83 62 = (rdA V x (I 133)).1 → I' 83 63 = (rdA V x (I 133)).2.1 → I' 83 64 = (rdA V x (I 133)).2.2.1 → I' 83 65 = (rdA V x (I 133)).2.2.2 → Q none h I' L) : (CT E mX12_readBy (d + 1) 0 0 [.ref (eB E + 83), .int (nI x)] h I L Q) := by
  refine w_X12_readBy hs _ ?_
  obtain ⟨nl, h17, e116⟩ := w.T.li x hx
  have enl : (V 116 x).toNatClampNeg = nl := by rw [e116, nI_clamp (by omega)]
  unfold rdA at hQ
  rw [enl] at hQ
  have K : ∀ l, l ≤ nl → ∀ I1, (∀ a, a ≠ 83 → I1 a = I a) → (∀ j, j < 62 ∨ 65 < j → I1 83 j = I 83 j) → I1 83 62 = (rdF V x (I 133) l).1 → I1 83 63 = (rdF V x (I 133) l).2.1 → I1 83 64 = (rdF V x (I 133) l).2.2.1 → I1 83 65 = (rdF V x (I 133) l).2.2.2 → (J E mX12_readBy (d + 1) Q 0 0 22 [some (.ref (eB E + 83)), some (.int (nI x)), some (.int (nI l)), none, none] [] h I1 L) := by
    refine dn nl ?_ ?_
    · intro I1 f1 f2 g1 g2 g3 g4
      refine w_X12_readBy_22 hs _ _ ⟨vp_in_nI (by omega) (by decide), br_t ?_ (hQ I1 f1 f2 g1 g2 g3 g4)⟩
      rw [nI_clamp (by omega), f1 116 (by decide), hV 116 (by decide) (by decide), e116]
      exact nI_le (Nat.le_refl _) (by omega)
    · intro l hl ih I1 f1 f2 g1 g2 g3 g4
      have hV1 : MV I1 V := fun a h1 h2 => (f1 a (by omega)).trans (hV a h1 h2)
      refine w_X12_readBy_22 hs _ _ ⟨vp_in_nI (by omega) (by decide), br_f ?_ ?_⟩
      · rw [nI_clamp (by omega), f1 116 (by decide), hV 116 (by decide) (by decide), e116]
        exact nI_ge hl (by omega)
      · rw [N16, pk_mul, nI_add, nI_clamp (show 16 * x + l < 2 ^ 31 by omega), nI_1]
        refine m_holds hs w hV1 (by omega) ⟨rfl, rfl, _, rfl, ?_⟩
        rw [f1 133 (by decide)]
        by_cases c : lnH V (16 * x + l) (I 133)
        · rw [cif_t c]
          refine br_f (by decide) ⟨vp_in_nI (by omega) (by decide), ?_⟩
          rw [hV1 118 (by decide) (by decide), hV1 119 (by decide) (by decide), g1, g2, g3, g4]
          rintro y7 rfl
          rintro y10 rfl
          rintro y15 rfl
          have e : rdF V x (I 133) (l + 1) = rdU V (16 * x + l) l (rdF V x (I 133) l) := cif_t c
          rw [e] at ih
          refine ih _ (fun a ha => by simp only [uI_ne ha]; exact f1 a ha) (fun j hj => ?_) ?_ ?_ ?_ ?_
          · rw [uI_nj (by omega), uI_nj (by omega), uI_nj (by omega), uI_nj (by omega)]; exact f2 j hj
          · simp (disch := decide) only [uI_eq, uI_nj, rdU]
          · simp (disch := decide) only [uI_eq, uI_nj, rdU]
          · simp (disch := decide) only [uI_eq, uI_nj, rdU]
          · simp (disch := decide) only [uI_eq, uI_nj, rdU]
        · rw [cif_f c]
          have e : rdF V x (I 133) (l + 1) = rdF V x (I 133) l := cif_f c
          rw [e] at ih
          exact br_t rfl (ih I1 f1 f2 g1 g2 g3 g4)
  refine K 0 (by omega) _ (fun a ha => by simp only [uI_ne ha]) (fun j hj => ?_) ?_ ?_ ?_ ?_
  · rw [uI_nj (by omega), uI_nj (by omega), uI_nj (by omega), uI_nj (by omega)]
  · simp (disch := decide) only [uI_eq, uI_nj, rdF]
  · simp (disch := decide) only [uI_eq, uI_nj, rdF]
  · simp (disch := decide) only [uI_eq, uI_nj, rdF]
  · simp (disch := decide) only [uI_eq, uI_nj, rdF]
/-! the component -/
theorem c_passes (hs : SL h) (w : Wf V) {t x nl l j : Nat} (wt : TRn h I V t x nl) (hx : x < 67) (hl : l < nl) (hj : j < tcn V (16 * x + l)) {v : Int32} (hfl : wN V (4 * (16 * x + l) + j) < 5 → bz v)
    (hQ : Q (some (.int (cif (tsB V (4 * (16 * x + l) + j) v) 1 0))) h I L) : (CT E mX10_passes d 0 0 [.ref (eB E + t), .int (nI (ftA V x l + j)), .int v] h I L Q) := by
  have l16 := wt.l16
  obtain ⟨t5, t117⟩ := tcn_ok w (r := 16 * x + l) (by omega)
  have hq : 4 * (16 * x + l) + j < 4288 := by omega
  obtain ⟨g1, g2⟩ := wN_ok w hq
  have hft := ftA_le w hx nl l16
  have hlt : ftA V x l + j < ftA V x nl := by
    have := ftA_mono (V := V) (x := x) (show l + 1 ≤ nl by omega)
    rw [ftA_succ] at this
    omega
  have jlt : nI j < V 117 (16 * x + l) := by rw [t117]; exact nI_lt hj (by omega)
  refine w_X10_passes hs _ _ wt.LT ⟨vp_in_nI hlt (by omega), ?_⟩
  rw [nI_clamp (by omega), wt.si l j hl hj, wt.bo l j hl hj, g2]
  by_cases c5 : wN V (4 * (16 * x + l) + j) < 5
  · have lt5 : nI (wN V (4 * (16 * x + l) + j)) < 5 := nI_lt c5 (by decide)
    rw [if_pos lt5, if_pos lt5]
    obtain ⟨e121, e122⟩ := w.T.fl (16 * x + l) j (by omega) (by omega) jlt (by rw [g2]; exact lt5)
    refine ⟨fun e => absurd e (by decide), fun e => absurd e (by decide), fun e => absurd e (by decide), fun _ _ _ => ?_⟩
    have hb := hfl c5
    have : bI (¬ v = 0) = cif (tsB V (4 * (16 * x + l) + j) v) 1 0 := by
      rcases hb with e | e
      · rw [bI_f (fun q => q e), cif_f]
        unfold tsB
        rw [e121, e122, e]
        decide
      · rw [bI_t (by rw [e]; decide), cif_t]
        unfold tsB
        rw [e121, e122, e]
        decide
    rw [this]
    exact hQ
  · have lt5 : ¬ nI (wN V (4 * (16 * x + l) + j)) < 5 := nI_nlt (show 5 ≤ wN V (4 * (16 * x + l) + j) by omega) (by omega)
    rw [if_neg lt5, if_neg lt5]
    have key : ∀ (p : Prop) [Decidable p], (p ↔ tsB V (4 * (16 * x + l) + j) v) → bI p = cif (tsB V (4 * (16 * x + l) + j) v) 1 0 := by
      intro p _ hp
      by_cases c : p
      · rw [bI_t c, cif_t (hp.mp c)]
      · rw [bI_f c, cif_f (fun e => c (hp.mpr e))]
    rcases w.T.si (16 * x + l) j (by omega) (by omega) jlt with e | e | e
    · rw [e]
      refine ⟨fun _ => ?_, fun e => absurd e (by decide), fun e => absurd e (by decide), fun e => absurd rfl e⟩
      rw [key _ (by unfold tsB; rw [e]; simp)]
      exact hQ
    · rw [e]
      refine ⟨fun e => absurd e (by decide), fun _ => ?_, fun e => absurd e (by decide), fun _ e => absurd rfl e⟩
      rw [key _ (by unfold tsB; rw [e]; simp)]
      exact hQ
    · rw [e]
      refine ⟨fun e => absurd e (by decide), fun e => absurd e (by decide), fun _ => ?_, fun _ _ e => absurd rfl e⟩
      rw [key _ (by unfold tsB; rw [e]; simp)]
      exact hQ
theorem c_holds (hs : SL h) (w : Wf V) {t x nl l : Nat} (wt : TRn h I V t x nl) (hx : x < 67) (hl : l < nl) {f : Nat → Int32} (hf : ∀ j, j < 11 → I 64 j = f j) (hfl : ∀ j, j < 5 → bz (f j))
    (hQ : Q (some (.int (cif (lnH V (16 * x + l) f) 1 0))) h I L) : (CT E mX10_holds (d + 1) 0 0 [.ref (eB E + t), .int (nI l), .ref (eB E + 64)] h I L Q) := by
  have l16 := wt.l16
  obtain ⟨t5, t117⟩ := tcn_ok w (r := 16 * x + l) (by omega)
  have hft := ftA_le w hx nl l16
  have hmo := ftA_mono (V := V) (x := x) (show l + 1 ≤ nl by omega)
  have hsu := ftA_succ (V := V) (x := x) (l := l)
  refine w_X10_holds (n2 := 11) hs _ wt.LT (lt64 hs) (kk64 hs) ⟨vp_in_nI (by omega) (by omega), ?_⟩
  rw [nI_clamp (by omega), wt.ft l (by omega)]
  rintro y2 rfl
  have K : ∀ j, j ≤ tcn V (16 * x + l) → (∀ i, i < j → ¬ tsF V (4 * (16 * x + l) + i) f) → (J E mX10_holds (d + 1) Q 0 0 7 [some (.ref (eB E + t)), some (.int (nI l)), some (.ref (eB E + 64)), some (.int (nI (ftA V x l + j)))] [] h I L) := by
    refine dn (tcn V (16 * x + l)) ?_ ?_
    · intro hno
      refine w_X10_holds_7 (n2 := 11) hs wt.LT (lt64 hs) (kk64 hs) _ _ ?_
      rw [nI_1, nI_clamp (by omega), wt.ft (l + 1) (by omega), hsu]
      rw [cif_t (show lnH V (16 * x + l) f from hno)] at hQ
      exact ⟨vp_in_nI (by omega) (by omega), br_t (nI_le (Nat.le_refl _) (by omega)) hQ⟩
    · intro j hj ih hno
      obtain ⟨g1, g2⟩ := wN_ok w (q := 4 * (16 * x + l) + j) (by omega)
      refine w_X10_holds_7 (n2 := 11) hs wt.LT (lt64 hs) (kk64 hs) _ _ ?_
      rw [nI_1, nI_clamp (show l + 1 < 2 ^ 31 by omega), wt.ft (l + 1) (by omega), hsu, nI_clamp (show ftA V x l + j < 2 ^ 31 by omega), wt.su l j hl hj, g2, nI_clamp (show wN V (4 * (16 * x + l) + j) < 2 ^ 31 by omega), hf _ g1, nI_1]
      refine ⟨vp_in_nI (by omega) (by omega), br_f (nI_ge (by omega) (by omega)) ⟨vp_in_nI (by omega) (by omega), vp_in_nI g1 (by decide), ?_⟩⟩
      refine c_passes hs w wt hx hl hj (fun c => hfl _ c) ⟨rfl, rfl, _, rfl, ?_⟩
      dsimp only
      rw [wt.no l j hl hj]
      have hiff : (cif (tsB V (4 * (16 * x + l) + j) (f (wN V (4 * (16 * x + l) + j)))) 1 0 = if 15 < V 120 (4 * (16 * x + l) + j) then (1 : Int32) else 0) ↔ tsF V (4 * (16 * x + l) + j) f := by
        unfold tsF
        have n15 : 15 < V 120 (4 * (16 * x + l) + j) ↔ ¬ V 120 (4 * (16 * x + l) + j) ≤ 15 := ⟨fun e c => by rw [fa_lt] at e; rw [fa_le] at c; omega, fun e => fa_of_nle e⟩
        by_cases c1 : tsB V (4 * (16 * x + l) + j) (f (wN V (4 * (16 * x + l) + j))) <;> by_cases c2 : V 120 (4 * (16 * x + l) + j) ≤ 15
        · rw [cif_t c1, if_neg (fun e => n15.mp e c2)]; exact ⟨fun e => absurd e (by decide), fun e => absurd c2 (e.mp c1)⟩
        · rw [cif_t c1, if_pos (n15.mpr c2)]; exact ⟨fun _ => ⟨fun _ => c2, fun _ => c1⟩, fun _ => rfl⟩
        · rw [cif_f c1, if_neg (fun e => n15.mp e c2)]; exact ⟨fun _ => ⟨fun e => absurd e c1, fun e => absurd c2 e⟩, fun _ => rfl⟩
        · rw [cif_f c1, if_pos (n15.mpr c2)]; exact ⟨fun e => absurd e (by decide), fun e => absurd (e.mpr c2) c1⟩
      refine br_c (fun c => ?_) (fun c => ih (lt_s hno (fun e => c (hiff.mpr e))))
      have : ¬ lnH V (16 * x + l) f := fun hh => hh j hj (hiff.mp c)
      rw [cif_f this] at hQ
      exact hQ
  exact K 0 (by omega) (fun i hi => absurd hi (by omega))
/-- does a text ask about kin -/
def akA (V : mI) (x : Nat) : Prop := ∃ l j, l < (V 116 x).toNatClampNeg ∧ j < tcn V (16 * x + l) ∧ (V 120 (4 * (16 * x + l) + j) &&& 15) = 6
theorem c_asksKin (hs : SL h) (w : Wf V) {t x nl : Nat} (wt : TRn h I V t x nl) (hx : x < 67) (hQ : Q (some (.int (cif (akA V x) 1 0))) h I L) : (CT E mX10_asksKin d 0 0 [.ref (eB E + t)] h I L Q) := by
  have l16 := wt.l16
  have hft := ftA_le w hx nl l16
  have enl : (V 116 x).toNatClampNeg = nl := by rw [wt.v, nI_clamp (by omega)]
  refine w_X10_asksKin hs wt.LT ?_
  have K : ∀ q, q ≤ ftA V x nl → (∀ i, i < q → ¬ I (t + 4) i = 6) → (J E mX10_asksKin d Q 0 0 2 [some (.ref (eB E + t)), some (.int (nI q))] [] h I L) := by
    refine dn (ftA V x nl) ?_ ?_
    · intro hno
      refine w_X10_asksKin_2 hs wt.LT _ (br_t (nI_le (Nat.le_refl _) (by omega)) ?_)
      rw [cif_f] at hQ
      · exact hQ
      · rintro ⟨l, j, h1, h2, h3⟩
        rw [enl] at h1
        have hmo := ftA_mono (V := V) (x := x) (show l + 1 ≤ nl by omega)
        rw [ftA_succ] at hmo
        exact hno (ftA V x l + j) (by omega) ((wt.su l j h1 h2).trans h3)
    · intro q hq ih hno
      refine w_X10_asksKin_2 hs wt.LT _ (br_f (nI_ge hq (by omega)) ⟨vp_in_nI hq (by omega), ?_⟩)
      rw [nI_clamp (by omega), nI_1]
      refine br_c (fun c => ?_) (fun c => ih (lt_s hno c))
      obtain ⟨l, j, h1, h2, h3⟩ := ft_find hq
      rw [h3, wt.su l j h1 h2] at c
      have : akA V x := ⟨l, j, by rw [enl]; exact h1, h2, c⟩
      rw [cif_t this] at hQ
      exact hQ
  exact K 0 (by omega) (fun i hi => absurd hi (by omega))
end RB
