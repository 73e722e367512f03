/-! the law from its entry (entry.py) -/
def ksX11 : List (Nat × Nat) := [(11, 0), (0, 0), (1, 0), (14, 8), (14, 8), (14, 8), (14, 8), (7, 0), (14, 20), (14, 20), (14, 20), (14, 20), (14, 20), (14, 20), (16, 20), (16, 20), (16, 20), (5, 0), (14, 60), (14, 60), (14, 60), (14, 60), (14, 25), (14, 25), (4, 0), (14, 30), (14, 30), (14, 30), (14, 30), (14, 30), (14, 30), (14, 30), (14, 30), (14, 330), (18, 30), (18, 30), (18, 7), (13, 500), (10, 0), (14, 0), (14, 0), (14, 1), (14, 0), (14, 0), (14, 0), (16, 0), (17, 3), (8, 0), (10, 0), (14, 16), (14, 16), (14, 17), (14, 64), (14, 64), (14, 64), (16, 64), (3, 0), (14, 5), (14, 200), (14, 20), (14, 20), (14, 20), (14, 20), (2, 0), (14, 11), (6, 0), (14, 8), (14, 8), (16, 64), (14, 64), (16, 64), (14, 64), (14, 64), (14, 64), (16, 64), (14, 2304), (14, 8), (9, 0), (14, 64), (14, 64), (14, 64), (14, 4), (14, 4)]
def rsX11 : List (Nat × Nat × Nat) := [(0, 6, 77), (77, 1, 65), (77, 0, 1), (77, 6, 82), (77, 5, 81), (77, 4, 80), (77, 3, 79), (77, 2, 78), (0, 5, 65), (65, 1, 63), (65, 0, 1), (65, 14, 76), (65, 13, 75), (65, 12, 74), (65, 11, 73), (65, 10, 72), (65, 9, 71), (65, 8, 70), (65, 7, 69), (65, 6, 68), (65, 3, 67), (65, 2, 66), (0, 4, 63), (63, 1, 56), (63, 0, 1), (63, 4, 64), (0, 3, 56), (56, 0, 1), (56, 6, 62), (56, 5, 61), (56, 4, 60), (56, 3, 59), (56, 2, 58), (56, 1, 57), (0, 2, 47), (47, 0, 1), (47, 11, 48), (48, 7, 55), (48, 6, 54), (48, 5, 53), (48, 4, 52), (48, 3, 51), (48, 2, 50), (48, 1, 49), (0, 1, 46), (0, 0, 1), (36, 6, 38), (36, 5, 38), (36, 4, 38), (36, 3, 38), (36, 2, 38), (36, 1, 38), (36, 0, 38), (38, 7, 45), (38, 6, 44), (38, 5, 43), (38, 4, 42), (38, 3, 41), (38, 2, 40), (38, 1, 39), (1, 6, 37), (1, 5, 36), (1, 4, 24), (24, 11, 35), (24, 10, 34), (24, 9, 33), (24, 8, 32), (24, 7, 31), (24, 6, 30), (24, 5, 29), (24, 4, 28), (24, 3, 27), (24, 2, 26), (24, 1, 25), (1, 3, 17), (17, 6, 23), (17, 5, 22), (17, 4, 21), (17, 3, 20), (17, 2, 19), (17, 1, 18), (1, 2, 7), (7, 9, 16), (7, 8, 15), (7, 7, 14), (7, 6, 13), (7, 5, 12), (7, 4, 11), (7, 3, 10), (7, 2, 9), (7, 1, 8), (1, 1, 2), (2, 4, 6), (2, 3, 5), (2, 2, 4), (2, 1, 3)]
def ksX12 : List (Nat × Nat) := [(12, 0), (13, 2000), (14, 4), (14, 4), (14, 4), (14, 4), (14, 100), (14, 4), (14, 32), (14, 32), (14, 32), (14, 32), (14, 4), (14, 80), (14, 80), (14, 80), (14, 80), (16, 80), (14, 80), (16, 80), (16, 80), (14, 4), (14, 960), (14, 4), (14, 120), (14, 120), (14, 120), (14, 120), (14, 120), (14, 120), (14, 120), (14, 120), (14, 1320), (14, 268), (14, 4288), (14, 4288), (14, 4288), (14, 17152), (14, 17152), (14, 17152), (14, 5), (14, 40), (14, 20), (14, 20), (14, 17), (14, 17), (14, 17), (14, 64), (14, 64), (14, 64), (14, 11), (14, 2), (14, 8), (14, 8), (14, 64), (15, 2304), (14, 8), (14, 8), (14, 64), (14, 64), (14, 64), (14, 4), (14, 4), (16, 3)]
def rsX12 : List (Nat × Nat × Nat) := [(0, 82, 63), (0, 81, 62), (0, 80, 61), (0, 77, 60), (0, 76, 59), (0, 75, 58), (0, 74, 57), (0, 73, 56), (0, 72, 55), (0, 71, 54), (0, 70, 53), (0, 69, 52), (0, 68, 51), (0, 61, 50), (0, 60, 49), (0, 59, 48), (0, 58, 47), (0, 57, 46), (0, 56, 45), (0, 55, 44), (0, 43, 43), (0, 42, 42), (0, 41, 41), (0, 40, 40), (0, 39, 39), (0, 38, 38), (0, 37, 37), (0, 36, 36), (0, 35, 35), (0, 34, 34), (0, 33, 33), (0, 32, 32), (0, 31, 31), (0, 30, 30), (0, 29, 29), (0, 28, 28), (0, 27, 27), (0, 26, 26), (0, 25, 25), (0, 24, 24), (0, 23, 23), (0, 22, 22), (0, 21, 21), (0, 20, 20), (0, 19, 19), (0, 18, 18), (0, 17, 17), (0, 16, 16), (0, 15, 15), (0, 14, 14), (0, 13, 13), (0, 12, 12), (0, 11, 11), (0, 10, 10), (0, 9, 9), (0, 8, 8), (0, 7, 7), (0, 6, 6), (0, 5, 5), (0, 4, 4), (0, 3, 3), (0, 2, 2), (0, 1, 1)]
def rsL : List (Nat × Nat × Nat) := [] ++ ((rsX12.map fun q => (83 + q.1, q.2.1, 83 + q.2.2)) ++ rsX11)
theorem fi_ne {I : mI} {a c n : Nat} {x : Int32} (h : a ≠ c) : fiI I c n x a = I a := by funext j; unfold fiI; rw [if_neg (fun z => h z.1)]
theorem f12_o {b a : Nat} {I : mI} (h1 : a ≠ b + 4) (h2 : a ≠ b + 6) : f_X12 b I a = I a := by
  unfold f_X12
  rw [uI_ne h2, uI_ne h2, uI_ne h2, uI_ne h2, uI_ne h2, uI_ne h2, uI_ne h2, uI_ne h2, uI_ne h2, uI_ne h2, uI_ne h2, uI_ne h2, uI_ne h2, uI_ne h2, uI_ne h2, uI_ne h2, uI_ne h2, uI_ne h2, uI_ne h2, uI_ne h2, uI_ne h2, uI_ne h2, uI_ne h2, uI_ne h2, uI_ne h2, uI_ne h1]
theorem f12_4 {b : Nat} {I : mI} : f_X12 b I (b + 4) 0 = (-1) := by
  unfold f_X12
  rw [uI_ne (by omega), uI_ne (by omega), uI_ne (by omega), uI_ne (by omega), uI_ne (by omega), uI_ne (by omega), uI_ne (by omega), uI_ne (by omega), uI_ne (by omega), uI_ne (by omega), uI_ne (by omega), uI_ne (by omega), uI_ne (by omega), uI_ne (by omega), uI_ne (by omega), uI_ne (by omega), uI_ne (by omega), uI_ne (by omega), uI_ne (by omega), uI_ne (by omega), uI_ne (by omega), uI_ne (by omega), uI_ne (by omega), uI_ne (by omega), uI_ne (by omega), uI_eq]
set_option maxRecDepth 100000 in
theorem f12_6 {b j : Nat} {I : mI} (hj : j < 25) : f_X12 b I (b + 6) j = (-1) := by
  have : j = 0 ∨ j = 1 ∨ j = 2 ∨ j = 3 ∨ j = 4 ∨ j = 5 ∨ j = 6 ∨ j = 7 ∨ j = 8 ∨ j = 9 ∨ j = 10 ∨ j = 11 ∨ j = 12 ∨ j = 13 ∨ j = 14 ∨ j = 15 ∨ j = 16 ∨ j = 17 ∨ j = 18 ∨ j = 19 ∨ j = 20 ∨ j = 21 ∨ j = 22 ∨ j = 23 ∨ j = 24 := by omega
  unfold f_X12
  rcases this with rfl | rfl | rfl | rfl | rfl | rfl | rfl | rfl | rfl | rfl | rfl | rfl | rfl | rfl | rfl | rfl | rfl | rfl | rfl | rfl | rfl | rfl | rfl | rfl | rfl <;> simp [uI]
theorem f5_o {b a : Nat} {I : mI} (h1 : a ≠ b + 5) (h2 : a ≠ b + 6) : f_X5 b I a = I a := by
  unfold f_X5
  rw [cpI_ne h2, uI_ne h1, uI_ne h1, uI_ne h1, uI_ne h1, uI_ne h1, fi_ne h1]
set_option maxRecDepth 100000 in
theorem f5_5 {b j : Nat} {I : mI} (hj : j < 25) : f_X5 b I (b + 5) j = if j % 6 = 0 then 0 else (-1) := by
  have : j = 0 ∨ j = 1 ∨ j = 2 ∨ j = 3 ∨ j = 4 ∨ j = 5 ∨ j = 6 ∨ j = 7 ∨ j = 8 ∨ j = 9 ∨ j = 10 ∨ j = 11 ∨ j = 12 ∨ j = 13 ∨ j = 14 ∨ j = 15 ∨ j = 16 ∨ j = 17 ∨ j = 18 ∨ j = 19 ∨ j = 20 ∨ j = 21 ∨ j = 22 ∨ j = 23 ∨ j = 24 := by omega
  unfold f_X5
  rw [cpI_ne (by omega)]
  rcases this with rfl | rfl | rfl | rfl | rfl | rfl | rfl | rfl | rfl | rfl | rfl | rfl | rfl | rfl | rfl | rfl | rfl | rfl | rfl | rfl | rfl | rfl | rfl | rfl | rfl <;> simp [uI, fiI]
theorem f5_6 {b j : Nat} {I : mI} (hj : j < 25) : f_X5 b I (b + 6) j = f_X5 b I (b + 5) j := by
  unfold f_X5
  rw [cpI_ne (show b + 5 ≠ b + 6 by omega)]
  unfold cpI
  rw [if_pos rfl, pk_cpy_in (by omega) (by omega)]
  congr 1
  omega
theorem f11_o {a : Nat} {I : mI} (h1 : a ≠ 57) (h2 : a ≠ 48) (h3 : a ≠ 38) (h4 : a ≠ 1) : f_X11 0 I a = f_X5 17 I a := by
  unfold f_X11 f_X9 f_X6 f_X2 f_X3 f_X8 f_X0 f_X10 f_X4 f_X7 f_X1
  rw [fi_ne (by omega), uI_ne (by omega), uI_ne (by omega), uI_ne (by omega)]
theorem f11_57 {j : Nat} {I : mI} (hj : j < 5) : f_X11 0 I 57 j = (-1) := by
  unfold f_X11 f_X9 f_X6 f_X2 f_X3
  unfold fiI
  rw [if_pos ⟨rfl, hj⟩]
theorem f11_38 {j : Nat} {I : mI} (h : ∀ j, I 38 j = 0) : f_X11 0 I 38 j = 0 := by
  unfold f_X11 f_X9 f_X6 f_X2 f_X3 f_X8 f_X0 f_X10 f_X4 f_X7 f_X1
  rw [fi_ne (by decide), uI_ne (by decide)]
  unfold uI
  by_cases e : j = 0
  · simp [e]; rfl
  · simp [e]
    have := f5_o (b := 17) (I := I) (a := 38) (by decide) (by decide)
    rw [this]; exact h j
theorem f11_1 {j : Nat} {I : mI} (h : ∀ j, I 1 j = 0) : f_X11 0 I 1 j = if j = 9 then (-1) else 0 := by
  unfold f_X11 f_X9 f_X6 f_X2 f_X3 f_X8 f_X0 f_X10 f_X4 f_X7 f_X1
  rw [fi_ne (by decide), uI_ne (by decide), uI_ne (by decide)]
  unfold uI
  by_cases e : j = 9
  · simp [e]
  · simp [e]
    have := f5_o (b := 17) (I := I) (a := 1) (by decide) (by decide)
    rw [this]; exact h j
section ENT
variable {E : Envt} {d : Nat} {h : mS} {I : mI} {L : mL}
set_option maxRecDepth 100000 in
set_option maxHeartbeats 4000000 in
theorem law_j (hN : eN E ≤ 3072) (h0 : h.2.2 = 0) : J E mL_law (d + 11) (fun v _ _ _ => v = some (.int 1)) 30000 1200000 0 [some (.ref (eb E)), none, none, none] [] h I L := by
  refine J.zr fun z0 => ?_
  have m0 : MK h h 0 [] [] [] := ⟨by rw [h0]; rfl, fun j q hj => by simp at hj, fun q hq => (by cases hq), fun q hq => (by cases hq), fun a _ => ⟨rfl, rfl⟩, fun a i _ _ _ => (z0 a (by omega)).2 i⟩
  refine J.less (bc' := (25714 + 82) + 1) (bs' := (1099755 + 5334) + 7) ?_ (by omega) (by omega)
  refine mk_new m0 (l := 0) (ks' := [(11, 0)]) rfl rfl cls11 nfl11 cl_L_7 isX11 inX11 dL_law_0 (fun h1 m1 => ?_)
  refine J.dup dL_law_3 rfl ?_
  refine J.callI (M' := mX11_init) (index := 9) (bc := 25714) (bs := 1099755) (bc' := 82) (bs' := 5334) (st := [.ref (eB E + (0 + 0))]) [] ml_L_9 cv_X11_init dL_law_4 rfl rfl (Nat.le_of_ble_eq_true rfl) ?_
  refine k_X11_init (d := d + 6) (b := 0 + 0) (show h1.2.2 = (0 + 0) + 1 from m1.1) (m1.z 0 (by decide)) (m1.kd 0 rfl) (fun h2 e2 => ?_)
  have m2 : MK h h2 0 ksX11 rsX11 [] := MK.app (l := 0) (ks2 := ksX11) (rs2 := rsX11) m1 e2 rfl rfl rfl rfl (fun q hq => by cases hq)
  show J E mL_law (d + 11) _ 25714 1099755 7 _ [.ref (eB E + 0)] h2 (f_X11 0 I) L
  refine J.astore_n (vs' := [some (.ref (eb E)), some (.ref (eB E + 0)), none, none]) dL_law_7 rfl (by decide) rfl ?_
  refine J.less (bc' := (25650 + 63) + 1) (bs' := (1026000 + 73672) + 83) ?_ (by omega) (by omega)
  refine mk_new m2 (l := 83) (ks' := ksX11 ++ [(12, 0)]) rfl rfl cls12 nfl12 cl_L_10 isX12 inX12 dL_law_8 (fun h3 m3 => ?_)
  refine J.dup dL_law_11 rfl ?_
  refine J.callI (M' := mX12_init) (index := 12) (bc := 25650) (bs := 1026000) (bc' := 63) (bs' := 73672) (st := [.ref (eB E + (0 + 83))]) [] ml_L_12 cv_X12_init dL_law_12 rfl rfl (Nat.le_of_ble_eq_true rfl) ?_
  have hf : (rsX11.all fun q => decide (q.1 < 83)) = true := by decide +kernel
  refine k_X12_init (d := d + 9) (b := 0 + 83) (show h3.2.2 = (0 + 83) + 1 from m3.1) (m3.z 83 hf) (m3.kd 83 rfl) (fun h4 e4 => ?_)
  have m4 : MK h h4 0 (ksX11 ++ ksX12) rsL [] := MK.app (l := 83) (ks2 := ksX11 ++ ksX12) (rs2 := rsL) m3 e4 rfl hf rfl rfl (fun q hq => by cases hq)
  show J E mL_law (d + 11) _ 25650 1026000 15 _ [.ref (eB E + 83)] h4 (f_X12 83 (f_X11 0 I)) L
  refine J.astore_n (vs' := [some (.ref (eb E)), some (.ref (eB E + 0)), some (.ref (eB E + 83)), none]) dL_law_15 rfl (by decide) rfl ?_
  refine J.iconst (v := 0) dL_law_16 (by decide) ?_
  refine J.istore_n (vs' := [some (.ref (eb E)), some (.ref (eB E + 0)), some (.ref (eB E + 83)), some (.int 0)]) dL_law_17 rfl (by decide) rfl ?_
  have hk : ∀ a, a < 147 → (ksX11 ++ ksX12)[a]? = some (layL.getD a (0, 0)) := by decide +kernel
  have hr : (layR.all fun q => rsL.contains q) = true := by decide +kernel
  have hx : (rsL.all fun q => decide (q.1 ≠ 34 ∧ q.1 ≠ 35 ∧ q.1 ≠ 46)) = true := by decide +kernel
  have h36 : ∀ x, x < 7 → rsL.contains (36, x, 38) = true := by decide +kernel
  have hs : SL h4 := by
    refine ⟨by rw [m4.1]; exact Nat.le_refl _, fun a ha => ?_, fun q hq => ?_⟩
    · have := m4.kd a (hk a ha)
      rw [Nat.zero_add] at this; exact this
    · have := m4.rf q (by simpa using List.all_eq_true.mp hr q hq)
      rw [Nat.zero_add, Nat.zero_add] at this; exact this
  have zI : ∀ a j, I a j = 0 := fun a j => (z0 a (by omega)).1 j
  have o : ∀ a, a ≠ 87 → a ≠ 89 → f_X12 83 (f_X11 0 I) a = f_X11 0 I a := fun a h1 h2 => f12_o (by omega) (by omega)
  have rl : Rel h4 (f_X12 83 (f_X11 0 I)) (f_X12 83 (f_X11 0 I)) := by
    refine Rel.start (ks := []) (rs := []) hs (fun i => ?_) (fun x hx => ?_) (fun a h1 h2 h3 h4 h5 h6 h7 j => ?_) (fun j => ?_) (fun j hj => ?_) (fun j hj => ?_) (fun v hv => ?_) ?_ (fun j hj => ?_)
    · have q : ∀ a, a = 34 ∨ a = 35 ∨ a = 46 → h4.2.1 a i = none := fun a ha => m4.2.2.2.2.2 a i (Nat.zero_le _) (fun q hq e => by
        have := List.all_eq_true.mp hx q hq
        simp at this
        omega) (fun q hq => by cases hq)
      exact ⟨q 34 (by omega), q 35 (by omega), q 46 (by omega)⟩
    · have := m4.rf (36, x, 38) (by simpa using h36 x hx)
      rw [Nat.zero_add, Nat.zero_add] at this; exact this
    · rw [o a h6 h7]
      by_cases e : a = 38
      · subst e; exact f11_38 (fun j => zI 38 j)
      · rw [f11_o h5 h4 e h1, f5_o (by omega) (by omega)]; exact zI a j
    · rw [o 1 (by decide) (by decide)]; exact f11_1 (fun j => zI 1 j)
    · rw [o 22 (by decide) (by decide), f11_o (by decide) (by decide) (by decide) (by decide)]; exact f5_5 (b := 17) hj
    · rw [o 22 (by decide) (by decide), o 23 (by decide) (by decide), f11_o (by decide) (by decide) (by decide) (by decide), f11_o (by decide) (by decide) (by decide) (by decide)]; exact f5_6 (b := 17) hj
    · rw [o 57 (by decide) (by decide)]; exact f11_57 hv
    · exact f12_4 (b := 83)
    · exact f12_6 (b := 83) hj
  exact law_loop (fun _ _ _ => rfl) hN 512 0 _ _ _ _ (by omega) (by decide) rl
end ENT
