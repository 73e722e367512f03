/-! update: feud -/
noncomputable def fwX (x : Int32) (b : Nat) (w : Int32) : Int32 := if x = 0 then w &&& (((1 : Int32) <<< (nI b &&& 31)) ^^^ (-1)) else w ||| ((1 : Int32) <<< (nI b &&& 31))
theorem b_one {b i : Nat} (hb : b < 32) (hi : i < 32) : bt ((1 : Int32) <<< (nI b &&& 31)) i = decide (i = b) := by
  have h1 : ∀ i, i < 32 → bt 1 i = decide (i = 0) := by decide
  rw [b_shl b hb 1 hi, h1 _ (by omega)]
  by_cases e : i = b
  · subst e; simp
  · by_cases c : b ≤ i
    · have : ¬ i - b = 0 := by omega
      simp [e, this]
    · simp [e, c]
theorem fwX_b {x w : Int32} {b j : Nat} (hb : b < 8) : bt (fwX x b w) j = if j = b then decide (¬ x = 0) else bt w j := by
  by_cases hj : j < 32
  · unfold fwX
    by_cases c : x = 0
    · rw [if_pos c, b_and, b_xor, b_m1 j hj, b_one (by omega) hj]
      by_cases e : j = b
      · simp [e, c]
      · simp [e]
    · rw [if_neg c, b_or, b_one (by omega) hj]
      by_cases e : j = b
      · simp [e, c]
      · simp [e]
  · rw [b_big (by omega), b_big (by omega), if_neg (by omega)]
noncomputable def feuV (V : mI) (a b : Nat) (x : Int32) : mI := uI (uI V 94 a (fwX x b (V 94 a))) 94 b (fwX x a (V 94 b))
noncomputable def feuN (V : mI) (a b x : Int32) : Int32 × mI := cip (inN a (cH V) ∧ inN b (cH V) ∧ ¬ a = b ∧ ¬ cif (fdB V a.toNatClampNeg b.toNatClampNeg = true) 1 0 = x) (1, feuV V a.toNatClampNeg b.toNatClampNeg x) (0, V)
theorem feu_fd {V : mI} {a b : Nat} {x : Int32} (ha : a < 8) (hb : b < 8) (hne : a ≠ b) (i j : Nat) : fdB (feuV V a b x) i j = if (i = a ∧ j = b) ∨ (i = b ∧ j = a) then decide (¬ x = 0) else fdB V i j := by
  unfold fdB feuV
  by_cases e1 : i = b
  · subst e1
    rw [uI_eq, fwX_b ha]
    by_cases e2 : j = a
    · rw [if_pos e2, if_pos (Or.inr ⟨rfl, e2⟩)]
    · rw [if_neg e2, if_neg (by omega)]
  · rw [uI_nj e1]
    by_cases e2 : i = a
    · subst e2
      rw [uI_eq, fwX_b hb]
      by_cases e3 : j = b
      · rw [if_pos e3, if_pos (Or.inl ⟨rfl, e3⟩)]
      · rw [if_neg e3, if_neg (by omega)]
    · rw [uI_nj e2, if_neg (by omega)]
theorem feu_o {V : mI} {a b : Nat} {x : Int32} {c : Nat} (h : c ≠ 94) : feuV V a b x c = V c := by unfold feuV; rw [uI_ne h, uI_ne h]
theorem feu_wf {V : mI} (w : WfH V) {a b : Nat} {x : Int32} (ha : a < cH V) (hb : b < cH V) (hne : a ≠ b) : WfH (feuV V a b x) := by
  have n8 := w.n8
  have ec : cH (feuV V a b x) = cH V := by unfold cH; rw [feu_o (by decide)]
  refine ⟨by rw [ec, feu_o (by decide)]; exact w.n, by rw [ec]; exact n8, fun i hi => by rw [feu_o (by decide)]; exact w.vil i hi, fun i j hi hj => ?_, fun i hi => ?_, fun i j hi hh => ?_⟩
  · rw [feu_fd (by omega) (by omega) hne, feu_fd (by omega) (by omega) hne, w.fs i j hi hj]
    by_cases c : (i = a ∧ j = b) ∨ (i = b ∧ j = a)
    · rw [if_pos c, if_pos (by omega)]
    · rw [if_neg c, if_neg (by omega)]
  · rw [feu_fd (by omega) (by omega) hne, if_neg (by omega)]
    exact w.fd i hi
  · rw [feu_fd (by omega) (by omega) hne] at hh
    rw [ec]
    by_cases c : (i = a ∧ j = b) ∨ (i = b ∧ j = a)
    · omega
    · rw [if_neg c] at hh; exact w.fb i j hi hh
theorem bI_cif' {p : Prop} {q : Prop} {i : Decidable p} (h : p ↔ q) : @bI p i = cif q 1 0 := by
  by_cases c : q
  · rw [cif_t c]; exact bI_t (h.mpr c)
  · rw [cif_f c]; exact bI_f (fun e => c (h.mp e))
section U4
variable {E : Envt} {d : Nat} {Q : Pst} {h : mS} {I I' V V' : mI} {L : mL}
theorem c_setFeud (q : CQ h I V) {a b : Nat} {x : Int32} (ha : a < cH V) (hb : b < cH V) (hne : a ≠ b) (hQ : ∀ I', (∀ a, a ≠ 6 → I' a = I a) → CQ h I' (feuV V a b x) → Q none h I' L) : (CT E mX1_setFeud d 0 0 [.ref (eB E + 2), .int (nI a), .int (nI b), .int x] h I L Q) := by
  have n8 := q.w.H.n8
  have fin : Q none h (uI (uI I 6 a (fwX x b (V 94 a))) 6 b (fwX x a (V 94 b))) L := by
    refine hQ _ (fun c hc => by rw [uI_ne hc, uI_ne hc]) (q.H' (fun c hc => by rw [uI_ne (by omega), uI_ne (by omega)]) (fun c hc => feu_o (by omega)) ⟨?_, ?_, ?_, ?_, ?_⟩ (feu_wf q.w.H ha hb hne))
    · unfold feuV; simp (disch := decide) only [uI_ne]; exact bH_n q.b
    · unfold feuV; simp (disch := decide) only [uI_ne]; exact bH_clan q.b
    · unfold feuV; simp (disch := decide) only [uI_ne]; exact bH_vil q.b
    · unfold feuV; simp (disch := decide) only [uI_ne]; exact bH_coin q.b
    · unfold feuV; simp (disch := decide) only [uI_at]; exact upE (upE (bH_feud q.b))
  refine w_X1_setFeud q.s _ _ _ ?_
  have hba : b ≠ a := fun e => hne e.symm
  rw [nI_clamp (by omega), nI_clamp (by omega), uI_nj hba, uI_nj hba, bH_feud q.b a (by omega), bH_feud q.b b (by omega)]
  have v1 : vp_in (nI a) 8 := vp_in_nI (by omega) (by decide)
  have v2 : vp_in (nI b) 8 := vp_in_nI (by omega) (by decide)
  unfold fwX at fin
  refine br_c (fun c => ⟨v1, v2, ?_⟩) (fun c => ⟨v1, v2, ?_⟩)
  · rw [if_pos c, if_pos c] at fin; exact fin
  · rw [if_neg c, if_neg c] at fin; exact fin
theorem m_setFeud (hs : SL h) (w : Wf V) (hV : MV I V) {a b : Nat} {x : Int32} (ha : a < cH V) (hb : b < cH V) (hne : a ≠ b) (hQ : ∀ I', (∀ a, a ≠ 94 → I' a = I a) → MV I' (feuV V a b x) → Q none h I' L) : (CT E mX12_setFeud d 0 0 [.ref (eB E + 83), .int (nI a), .int (nI b), .int x] h I L Q) := by
  have n8 := w.H.n8
  have hba : b ≠ a := fun e => hne e.symm
  have v1 : vp_in (nI a) 32 := vp_in_nI (by omega) (by decide)
  have v2 : vp_in (nI b) 32 := vp_in_nI (by omega) (by decide)
  refine w_X12_setFeud hs _ _ _ ⟨fun _ => v1, fun _ => v1, ?_⟩
  rintro y6 rfl
  refine ⟨v1, fun _ => v2, fun _ => v2, ?_⟩
  rintro y13 rfl
  rw [nI_clamp (by omega), nI_clamp (by omega), uI_nj hba, hV 94 (by decide) (by decide)]
  exact ⟨v2, hQ _ (fun c hc => by rw [uI_ne hc, uI_ne hc]) hV.u.u⟩
theorem c_feud (q : CQ h I V) {a b x : Int32} (hQ : ∀ I', UC I I' → CQ h I' (feuN V a b x).2 → Q (some (.int (feuN V a b x).1)) h I' L) : (CT E mX11_feud (d + 1) 0 0 [.ref (eB E + 0), .int a, .int b, .int x] h I L Q) := by
  have n8 := q.w.H.n8
  unfold feuN at hQ
  have no : (¬ (inN a (cH V) ∧ inN b (cH V) ∧ ¬ a = b ∧ ¬ cif (fdB V a.toNatClampNeg b.toNatClampNeg = true) 1 0 = x)) → Q (some (.int 0)) h I L := fun hn => by
    rw [cip_f hn] at hQ
    exact hQ I UC.rf q
  refine w_X11_feud q.s _ _ _ (br_c (fun c1 => br_c (fun c2 => br_c (fun c3 => no fun e => e.2.2.1 c3) (fun c3 => ?_)) (fun c2 => no fun e => c2 ((cH_r q).mpr e.2.1))) (fun c1 => no fun e => c1 ((cH_r q).mpr e.1)))
  have i1 := (cH_r q).mp c1
  have i2 := (cH_r q).mp c2
  have j1 := i1
  have j2 := i2
  obtain ⟨a, ha, rfl⟩ := i1
  obtain ⟨b, hb, rfl⟩ := i2
  rw [nI_clamp (by omega), nI_clamp (by omega)] at hQ no
  have eb : bI (((I 6 (nI a).toNatClampNeg >>> (nI b &&& 31)) &&& 1) = 1) = cif (fdB V a b = true) 1 0 := bI_cif' (by
    rw [nI_clamp (by omega), bH_feud q.b a (by omega)]; exact bit_1 _ (by omega))
  rw [eb]
  refine ⟨vp_in_nI (by omega) (by decide), br_c (fun c4 => no fun e => e.2.2.2 c4) (fun c4 => ?_)⟩
  rw [cip_t ⟨j1, j2, c3, c4⟩] at hQ
  exact c_setFeud q ha hb (fun e => c3 (by rw [e])) (fun I' f' q' => qv_i (hQ I' (fun a ha => f' a (by omega)) q'))
theorem m_feud (hs : SL h) (w : Wf V) (hV : MV I V) {a b x : Int32} (hQ : ∀ I', UM I I' → MV I' (feuN V a b x).2 → Q (some (.int (feuN V a b x).1)) h I' L) : (CT E mX12_feud (d + 2) 0 0 [.ref (eB E + 83), .int a, .int b, .int x] h I L Q) := by
  have n8 := w.H.n8
  unfold feuN at hQ
  have no : (¬ (inN a (cH V) ∧ inN b (cH V) ∧ ¬ a = b ∧ ¬ cif (fdB V a.toNatClampNeg b.toNatClampNeg = true) 1 0 = x)) → Q (some (.int 0)) h (uI I 83 0 0) L := fun hn => by
    rw [cip_f hn] at hQ
    exact hQ _ UM.u hV.o
  refine w_X12_feud hs _ _ _ (br_c (fun c1 => br_c (fun c2 => br_c (fun c3 => no fun e => e.2.2.1 c3) (fun c3 => ?_)) (fun c2 => no fun e => c2 ((mH_r w hV).mpr e.2.1))) (fun c1 => no fun e => c1 ((mH_r w hV).mpr e.1)))
  have i1 := (mH_r w hV).mp c1
  have i2 := (mH_r w hV).mp c2
  have j1 := i1
  have j2 := i2
  obtain ⟨a, ha, rfl⟩ := i1
  obtain ⟨b, hb, rfl⟩ := i2
  rw [nI_clamp (by omega), nI_clamp (by omega)] at hQ no
  have eb : bI (¬ ((uI I 83 0 0 94 (nI a).toNatClampNeg >>> (nI b &&& 31)) &&& 1) = 0) = cif (fdB V a b = true) 1 0 := bI_cif' (by
    rw [nI_clamp (by omega), uI_ne (by decide), hV 94 (by decide) (by decide), bit_0 _ (by omega), Classical.not_not]; exact Iff.rfl)
  rw [eb]
  refine ⟨vp_in_nI (by omega) (by decide), br_c (fun c4 => no fun e => e.2.2.2 c4) (fun c4 => ?_)⟩
  rw [cip_t ⟨j1, j2, c3, c4⟩] at hQ
  exact m_setFeud hs w (hV.o (a := 83) (i := 0) (x := 0)) ha hb (fun e => c3 (by rw [e])) (fun I' f' v' => qv_i (hQ I' (UM.tr UM.u (fun a ha => f' a (by omega))) v'))
end U4
