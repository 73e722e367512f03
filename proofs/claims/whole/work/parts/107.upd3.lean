/-! updates: road, feud -/
theorem r_m1 {x : Int32} : (¬ x < (-1) ∧ ¬ 9 < x) ↔ (x = (-1) ∨ inN x 10) := by
  have e1 : ((-1) : Int32).toInt = -1 := by decide
  have e9 : (9 : Int32).toInt = 9 := by decide
  rw [fa_lt, fa_lt, e1, e9]
  constructor
  · intro h
    by_cases c : x = (-1)
    · exact Or.inl c
    · right
      have : x.toInt ≠ -1 := fun e => c (Int32.toInt_inj.mp (by rw [e, e1]))
      exact (rng_le (m := 9) (x := x) (lit := 9) rfl (by decide)).mp ⟨by rw [fa_lt, show (0 : Int32).toInt = 0 by decide]; omega, by rw [fa_lt, e9]; omega⟩
  · rintro (rfl | ⟨j, hj, rfl⟩)
    · exact ⟨by decide, by decide⟩
    · rw [nI_toInt (by omega)]; omega
theorem r_10 {x : Int32} : (¬ x < 0 ∧ ¬ 9 < x) ↔ inN x 10 := rng_le (m := 9) rfl (by decide)
noncomputable def roaV (V : mI) (a b : Nat) (x : Int32) : mI := uI (uI V 89 (5 * a + b) x) 89 (5 * b + a) x
noncomputable def roaN (V : mI) (a b x : Int32) : Int32 × mI := cip (inN a 5 ∧ inN b 5 ∧ ¬ a = b ∧ (x = (-1) ∨ inN x 10)) (1, roaV V a.toNatClampNeg b.toNatClampNeg x) (0, V)
theorem roaV_89 {V : mI} {a b : Nat} {x : Int32} : roaV V a b x 89 = upd (upd (V 89) (5 * a + b) x) (5 * b + a) x := by unfold roaV; rw [uI_at, uI_at]
theorem roaV_o {V : mI} {a b : Nat} {x : Int32} {c : Nat} (h : c ≠ 89) : roaV V a b x c = V c := by unfold roaV; rw [uI_ne h, uI_ne h]
theorem up2 {f : Nat → Int32} {a b c e : Nat} {x : Int32} (ha : a < 5) (hb : b < 5) (hc : c < 5) (he : e < 5) : upd (upd f (5 * a + b) x) (5 * b + a) x (5 * c + e) = if (c = a ∧ e = b) ∨ (c = b ∧ e = a) then x else f (5 * c + e) := by
  unfold upd
  by_cases h1 : 5 * c + e = 5 * b + a
  · rw [if_pos h1, if_pos (Or.inr ⟨by omega, by omega⟩)]
  · rw [if_neg h1]
    by_cases h2 : 5 * c + e = 5 * a + b
    · rw [if_pos h2, if_pos (Or.inl ⟨by omega, by omega⟩)]
    · rw [if_neg h2, if_neg (by omega)]
theorem roa_wf {V : mI} (w : WfR V) {a b : Nat} {x : Int32} (ha : a < 5) (hb : b < 5) (hx : x = (-1) ∨ inN x 10) : WfR (roaV V a b x) := by
  refine ⟨fun c e hc he => ?_, fun c e hc he => ?_⟩
  · rw [roaV_89, up2 ha hb hc he, up2 ha hb he hc, w.sym c e hc he]
    by_cases h1 : (c = a ∧ e = b) ∨ (c = b ∧ e = a)
    · rw [if_pos h1, if_pos (by omega)]
    · rw [if_neg h1, if_neg (by omega)]
  · rw [roaV_89, up2 ha hb hc he]
    split
    · exact hx
    · exact w.rng c e hc he
section U3
variable {E : Envt} {d : Nat} {Q : Pst} {h : mS} {I I' V V' : mI} {L : mL}
theorem CQ.R' (q : CQ h I V) (hI : ∀ a, a ≠ 22 → a ≠ 23 → a ≠ 57 → I' a = I a) (hV : ∀ a, a ≠ 89 → V' a = V a) (b : BkN I' 1 V') (w : WfR V') (k : Kc I' V') : CQ h I' V' :=
  ⟨q.s, ⟨q.b.S.cv (fun a ha => hV a (by omega)) (fun a ha => hI a (by omega) (by omega) (by omega)), q.b.H.cv (fun a ha => hV a (by omega)) (fun a ha => hI a (by omega) (by omega) (by omega)), q.b.P.cv (fun a ha => hV a (by omega)) (fun a ha => hI a (by omega) (by omega) (by omega)), q.b.O.cv (fun a ha => hV a (by omega)) (fun a ha => hI a (by omega) (by omega) (by omega)), b, q.b.M.cv (fun a ha => hV a (by omega)) (fun a ha => hI a (by omega) (by omega) (by omega)), q.b.X.cv (fun a ha => hV a (by omega)) (fun a ha => hI a (by omega) (by omega) (by omega))⟩,
   ⟨q.w.S.cv (fun a ha => hV a (by omega)), q.w.H.cv (fun a ha => hV a (by omega)), q.w.P.cv (fun a ha => hV a (by omega)), q.w.N.cv (fun a ha => hV a (by omega)), w, q.w.M.cv (fun a ha => hV a (by omega)), q.w.T.cv (fun a ha => hV a (by omega)), q.w.W.cv (fun a ha => hV a (by omega))⟩, k⟩
theorem c_road (q : CQ h I V) {a b x : Int32} (hQ : ∀ I', UC I I' → CQ h I' (roaN V a b x).2 → Q (some (.int (roaN V a b x).1)) h I' L) : (CT E mX11_road (d + 3) 0 0 [.ref (eB E + 0), .int a, .int b, .int x] h I L Q) := by
  unfold roaN at hQ
  have no : (¬ (inN a 5 ∧ inN b 5 ∧ ¬ a = b ∧ (x = (-1) ∨ inN x 10))) → Q (some (.int 0)) h I L := fun hn => by
    rw [cip_f hn] at hQ
    exact hQ I UC.rf q
  refine w_X11_road q.s _ _ _ (br_c (fun c1 => br_c (fun c2 => br_c (fun c3 => no fun e => e.2.2.1 c3) (fun c3 => ?_)) (fun c2 => no fun e => c2 (r_5.mpr e.2.1))) (fun c1 => no fun e => c1 (r_5.mpr e.1)))
  have i1 := r_5.mp c1
  have i2 := r_5.mp c2
  have key : (x = (-1) ∨ inN x 10) → CT E mX5_setRoad (d + 2) 0 0 [.ref (eB E + 17), .int a, .int b, .int x] h I L (qv h L fun I9 => (CT E mX3_forget (d + 2) 0 0 [.ref (eB E + 56)] h I9 L (qv h L fun I10 => Q (some (.int 1)) h I10 L))) := by
    intro hx
    rw [cip_t ⟨i1, i2, c3, hx⟩] at hQ
    dsimp only at hQ
    obtain ⟨a, ha, rfl⟩ := i1
    obtain ⟨b, hb, rfl⟩ := i2
    rw [nI_clamp (by omega), nI_clamp (by omega)] at hQ
    have hne : a ≠ b := fun e => c3 (by rw [e])
    have wr := roa_wf q.w.R ha hb hx
    refine c_setRoad q.s ha hb hne (roaV V a b x) wr.rng wr.sym (fun a' c h1 h2 h3 => ?_) (bN_di q.b) (fun g hg => qv_i ?_)
    · rw [roaV_89, up2 ha hb h1 h2, up2 ha hb h1 h2, bN_ro q.b a' c h1 h2 h3]
    refine c_forget q.s (fun f hf => qv_i ?_)
    refine hQ _ (fun c hc => ?_) (q.R' (fun c h1 h2 h3 => ?_) (fun c hc => roaV_o hc) ⟨?_, ?_, ?_, ?_, ?_, ?_, ?_, ?_⟩ wr ?_)
    · rw [sA_ne (by omega), sA_ne (by omega), sA_ne (by omega)]
    · rw [sA_ne (by omega), sA_ne (by omega), sA_ne (by omega)]
    · rw [sA_ne (by decide), sA_ne (by decide), sA_ne (by decide), roaV_o (by decide)]; exact bN_n q.b
    · rw [sA_ne (by decide), sA_ne (by decide), sA_ne (by decide), roaV_o (by decide)]; exact bN_chi q.b
    · rw [sA_ne (by decide), sA_ne (by decide), sA_ne (by decide), roaV_o (by decide)]; exact bN_par q.b
    · rw [sA_ne (by decide), sA_ne (by decide), sA_ne (by decide), roaV_o (by decide)]; exact bN_at q.b
    · rw [sA_ne (by decide), sA_ne (by decide), sA_ne (by decide), roaV_o (by decide)]; exact bN_in q.b
    · intro a' c h1 h2 h3
      rw [sA_ne (by decide), sA_ne (by decide), sA_at, roaV_89, up2 ha hb h1 h2, up2 ha hb h1 h2, bN_ro q.b a' c h1 h2 h3]
    · intro a' h1
      rw [sA_ne (by decide), sA_ne (by decide), sA_at, up2 ha hb h1 h1, if_neg (by omega)]
      exact bN_di q.b a' h1
    · intro a' v h1 h2
      rw [sA_ne (by decide), sA_at]
      exact hg a' v h1 h2
    · intro v hv hn
      rw [sA_at] at hn
      exact absurd (hf v hv) hn
  refine br_c (fun c4 => key (Or.inl c4)) (fun c4 => br_c (fun c5 => key (Or.inr (r_10.mp c5))) (fun c5 => no fun e => e.2.2.2.elim c4 (fun z => c5 (r_10.mpr z))))
theorem m_road (hs : SL h) (hV : MV I V) {a b x : Int32} (hQ : ∀ I', UM I I' → MV I' (roaN V a b x).2 → Q (some (.int (roaN V a b x).1)) h I' L) : (CT E mX12_road (d + 2) 0 0 [.ref (eB E + 83), .int a, .int b, .int x] h I L Q) := by
  unfold roaN at hQ
  have no : (¬ (inN a 5 ∧ inN b 5 ∧ ¬ a = b ∧ (x = (-1) ∨ inN x 10))) → Q (some (.int 0)) h (uI I 83 0 0) L := fun hn => by
    rw [cip_f hn] at hQ
    exact hQ _ UM.u hV.o
  refine w_X12_road hs _ _ _ (br_c (fun c1 => br_c (fun c2 => br_c (fun c3 => no fun e => e.2.2.1 c3) (fun c3 => br_c (fun c4 => ?_) (fun c4 => no fun e => c4 (r_m1.mpr e.2.2.2)))) (fun c2 => no fun e => c2 (r_5.mpr e.2.1))) (fun c1 => no fun e => c1 (r_5.mpr e.1)))
  have i1 := r_5.mp c1
  have i2 := r_5.mp c2
  rw [cip_t ⟨i1, i2, c3, r_m1.mp c4⟩] at hQ
  dsimp only at hQ
  obtain ⟨a, ha, rfl⟩ := i1
  obtain ⟨b, hb, rfl⟩ := i2
  rw [nI_clamp (by omega), nI_clamp (by omega)] at hQ
  have e1 : 5 * nI a + nI b = nI (5 * a + b) := by rw [N5, pk_mul, nI_add]
  have e2 : 5 * nI b + nI a = nI (5 * b + a) := by rw [N5, pk_mul, nI_add]
  rw [e1, e2, nI_clamp (show 5 * a + b < 2 ^ 31 by omega), nI_clamp (show 5 * b + a < 2 ^ 31 by omega)]
  exact ⟨vp_in_nI (by omega) (by decide), vp_in_nI (by omega) (by decide), hQ _ (UM.tr (UM.tr UM.u UM.u) UM.u) hV.o.u.u⟩
end U3
