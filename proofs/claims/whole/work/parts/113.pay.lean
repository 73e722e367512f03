/-! coins change hands -/
noncomputable def payV (V : mI) (x y : Nat) (z : Int32) : mI := uI (uI V 93 x (V 93 x - z)) 93 y (uI V 93 x (V 93 x - z) 93 y + z)
theorem pay_o {V : mI} {x y a : Nat} {z : Int32} (h : a ≠ 93) : payV V x y z a = V a := by unfold payV; rw [uI_ne h, uI_ne h]
section PA
variable {E : Envt} {d : Nat} {Q : Pst} {h : mS} {I I' V V' : mI} {L : mL}
theorem pay_c (q : CQ h I V) {x y : Nat} {z : Int32} (hx : x < 8) (hy : y < 8) : CQ h (uI (uI I 5 x (I 5 x - z)) 5 y (uI I 5 x (I 5 x - z) 5 y + z)) (payV V x y z) := by
  have e1 : ∀ i, i < 8 → upd (I 5) x (I 5 x - z) i = upd (V 93) x (V 93 x - z) i := by rw [bH_coin q.b x hx]; exact upE (bH_coin q.b)
  refine q.H' (fun a ha => by rw [uI_ne (by omega), uI_ne (by omega)]) (fun a ha => pay_o (by omega)) ⟨?_, ?_, ?_, ?_, ?_⟩ (q.w.H.cv (fun a ha => pay_o (by omega)))
  · rw [pay_o (by decide)]; simp (disch := decide) only [uI_ne]; exact bH_n q.b
  · rw [pay_o (by decide)]; simp (disch := decide) only [uI_ne]; exact bH_clan q.b
  · rw [pay_o (by decide)]; simp (disch := decide) only [uI_ne]; exact bH_vil q.b
  · unfold payV
    simp (disch := decide) only [uI_at]
    rw [e1 y hy]
    exact upE e1
  · rw [pay_o (by decide)]; simp (disch := decide) only [uI_ne]; exact bH_feud q.b
theorem c_pay (q : CQ h I V) {x y : Nat} {z : Int32} (hx : x < 8) (hy : y < 8) (h1 : z ≤ V 93 x → ∀ I', (∀ a, a ≠ 5 → I' a = I a) → CQ h I' (payV V x y z) → Q (some (.int 1)) h I' L) (h0 : ¬ z ≤ V 93 x → Q (some (.int 0)) h I L) : (CT E mX1_pay d 0 0 [.ref (eB E + 2), .int (nI x), .int (nI y), .int z] h I L Q) := by
  refine w_X1_pay q.s _ _ _ ⟨vp_in_nI hx (by decide), ?_⟩
  rw [nI_clamp (show x < 2 ^ 31 by omega), nI_clamp (show y < 2 ^ 31 by omega)]
  refine br_c (fun c => ⟨vp_in_nI hy (by decide), ?_⟩) (fun c => ?_)
  · rw [bH_coin q.b x hx] at c
    exact h1 c _ (fun a ha => by rw [uI_ne ha, uI_ne ha]) (pay_c q hx hy)
  · rw [bH_coin q.b x hx] at c
    exact h0 c
end PA
theorem nI_div {a b : Nat} (ha : a < 2 ^ 31) (hb : b < 2 ^ 31) (h0 : 0 < b) : nI a / nI b = nI (a / b) := by
  have hle : a / b ≤ a := Nat.div_le_self a b
  refine Int32.toInt_inj.mp ?_
  rw [Int32.toInt_div, nI_toInt ha, nI_toInt hb, nI_toInt (by omega)]
  have e : Int.tdiv (a : Int) (b : Int) = ((a / b : Nat) : Int) := by
    rw [Int.tdiv_eq_ediv_of_nonneg (by omega)]; omega
  rw [e]
  generalize a / b = c at hle
  exact Int.bmod_eq_of_le (by omega) (by omega)
