/-! the makings, by program (mkb.py) -/
set_option maxRecDepth 100000 in
set_option maxHeartbeats 4000000 in
theorem v_J7_fill_53178 {E : Envt} {d : Nat} {Q : Pst} {h : mS} {I : mI} {L : mL}  {a0 n0 : Nat} (x1 : Int32) (hl0 : a0 < h.2.2) (hk0 : h.1 a0 = (14, n0))
    (hW : J E mJ7_fill_53178 d Q 0 0 5 [some (.ref (eB E + a0)), some (.int x1), some (.int 0), some (.int (Int32.ofNat n0))] [] h I L) :
    CT E mJ7_fill_53178 d 0 0 [.ref (eB E + a0), .int x1] h I L Q := by
  refine CT.ofF (by decide +kernel) [some (.ref (eB E + a0)), some (.int x1), none, none] rfl (Nat.le_of_ble_eq_true rfl) ?_
  refine J.iconst (v := 0) dJ7_fill_53178_0 (by decide) ?_
  refine J.istore_n (vs' := [some (.ref (eB E + a0)), some (.int x1), some (.int 0), none]) dJ7_fill_53178_1 rfl (by decide) rfl ?_
  refine J.aload_n dJ7_fill_53178_2 rfl rfl ?_
  refine J.alen (v := Int32.ofNat n0) dJ7_fill_53178_3 hl0 hk0 (by decide) (by rfl) ?_
  refine J.istore_n (vs' := [some (.ref (eB E + a0)), some (.int x1), some (.int 0), some (.int (Int32.ofNat n0))]) dJ7_fill_53178_4 rfl (by decide) rfl ?_
  exact hW

set_option maxRecDepth 100000 in
set_option maxHeartbeats 4000000 in
theorem v_J7_fill_53178_5 {E : Envt} {d : Nat} {Q : Pst} {h : mS} {I : mI} {L : mL}  {a0 n0 : Nat} (hl0 : a0 < h.2.2) (hk0 : h.1 a0 = (14, n0))  (x1 : Int32) (x2 : Int32) (x3 : Int32)
    (hW : (((x3 ≤ x2) → Q none h I L) ∧ (¬ (x3 ≤ x2) → (vp_in x2 n0 ∧ J E mJ7_fill_53178 d Q 0 0 5 [some (.ref (eB E + a0)), some (.int x1), some (.int (x2 + 1)), some (.int x3)] [] h (uI I a0 x2.toNatClampNeg x1) L)))) :
    J E mJ7_fill_53178 d Q 0 0 5 [some (.ref (eB E + a0)), some (.int x1), some (.int x2), some (.int x3)] [] h I L := by
  refine J.iload_n dJ7_fill_53178_5 rfl rfl ?_
  refine J.iload_n dJ7_fill_53178_6 rfl rfl ?_
  refine J.ic_ge 20 dJ7_fill_53178_7 (by decide) (fun hc1 => ?_) (fun hc1 => ?_)
  · have hW := hW.1 hc1
    exact J.retv dJ7_fill_53178_20 rfl hW
  · have hW := hW.2 hc1
    refine J.aload_n dJ7_fill_53178_10 rfl rfl ?_
    refine J.iload_n dJ7_fill_53178_11 rfl rfl ?_
    refine J.iload_n dJ7_fill_53178_12 rfl rfl ?_
    obtain ⟨hb2, hW⟩ := hW
    refine J.iast dJ7_fill_53178_13 hl0 hk0 hb2 ?_
    refine J.iinc (v := x2 + 1) (vs' := [some (.ref (eB E + a0)), some (.int x1), some (.int (x2 + 1)), some (.int x3)]) dJ7_fill_53178_14 rfl (by rfl) (by decide) rfl ?_
    refine J.goto 5 dJ7_fill_53178_17 (by decide) ?_
    exact hW

set_option maxRecDepth 100000 in
set_option maxHeartbeats 4000000 in
theorem v_J9_min_7cf53 {E : Envt} {d : Nat} {Q : Pst} {h : mS} {I : mI} {L : mL}  (x0 : Int32) (x1 : Int32) 
    (hW : Q (some (.int (if x1 < x0 then x1 else x0 : Int32))) h I L) :
    CT E mJ9_min_7cf53 d 0 0 [.int x0, .int x1] h I L Q := by
  refine CT.ofF (by decide +kernel) [some (.int x0), some (.int x1)] rfl (Nat.le_of_ble_eq_true rfl) ?_
  refine J.iload_n dJ9_min_7cf53_0 rfl rfl ?_
  refine J.iload_n dJ9_min_7cf53_1 rfl rfl ?_
  have hj : J E mJ9_min_7cf53 d Q 0 0 10 [some (.int x0), some (.int x1)] [.int (if x1 < x0 then x1 else x0 : Int32)] h I L := by
    exact J.reti dJ9_min_7cf53_10 rfl rfl hW
  refine J.ic_gt 9 dJ9_min_7cf53_2 (by decide) (fun hc1 => ?_) (fun hc1 => ?_)
  · refine J.iload_n dJ9_min_7cf53_9 rfl rfl ?_
    rw [show ((if x1 < x0 then x1 else x0 : Int32) = x1) from by simp only [eq_true hc1, if_true, if_false, bI_true, bI_false, and_true, true_and, and_false, false_and, or_true, true_or, or_false, false_or, not_true_eq_false, not_false_eq_true]] at hj
    exact hj
  · refine J.iload_n dJ9_min_7cf53_5 rfl rfl ?_
    refine J.goto 10 dJ9_min_7cf53_6 (by decide) ?_
    rw [show ((if x1 < x0 then x1 else x0 : Int32) = x0) from by simp only [eq_false hc1, if_true, if_false, bI_true, bI_false, and_true, true_and, and_false, false_and, or_true, true_or, or_false, false_or, not_true_eq_false, not_false_eq_true]] at hj
    exact hj

set_option maxRecDepth 100000 in
set_option maxHeartbeats 4000000 in
theorem v_X11_copy {E : Envt} {d : Nat} {Q : Pst} {h : mS} {I : mI} {L : mL}  {a0 n0 : Nat} {a1 n1 : Nat} (hl0 : a0 < h.2.2) (hk0 : h.1 a0 = (14, n0)) (hl1 : a1 < h.2.2) (hk1 : h.1 a1 = (14, n1))
    (hW : ((¬ (if (Int32.ofNat n1) < (Int32.ofNat n0) then (Int32.ofNat n1) else (Int32.ofNat n0) : Int32) < 0) ∧ ((0 + (if (Int32.ofNat n1) < (Int32.ofNat n0) then (Int32.ofNat n1) else (Int32.ofNat n0) : Int32).toNatClampNeg ≤ n0) ∧ ((0 + (if (Int32.ofNat n1) < (Int32.ofNat n0) then (Int32.ofNat n1) else (Int32.ofNat n0) : Int32).toNatClampNeg ≤ n1) ∧ Q none h (cpI I a0 a1 0 0 (if (Int32.ofNat n1) < (Int32.ofNat n0) then (Int32.ofNat n1) else (Int32.ofNat n0) : Int32).toNatClampNeg) L)))) :
    CT E mX11_copy (d + 1) 0 0 [.ref (eB E + a0), .ref (eB E + a1)] h I L Q := by
  refine CT.of (by decide) [some (.ref (eB E + a0)), some (.ref (eB E + a1))] rfl (Nat.le_of_ble_eq_true rfl) ?_
  refine J.aload_n dX11_copy_0 rfl rfl ?_
  refine J.iconst (v := 0) dX11_copy_1 (by decide) ?_
  refine J.aload_n dX11_copy_2 rfl rfl ?_
  refine J.iconst (v := 0) dX11_copy_3 (by decide) ?_
  refine J.aload_n dX11_copy_4 rfl rfl ?_
  refine J.alen (v := Int32.ofNat n0) dX11_copy_5 hl0 hk0 (by decide) (by rfl) ?_
  refine J.aload_n dX11_copy_6 rfl rfl ?_
  refine J.alen (v := Int32.ofNat n1) dX11_copy_7 hl1 hk1 (by decide) (by rfl) ?_
  refine J.callS (M' := mJ9_min_7cf53) (index := 395) (bc := 0) (bs := 0) (bc' := 0) (bs' := 0) (st := [.int 0, .ref (eB E + a1), .int 0, .ref (eB E + a0)]) [.int (Int32.ofNat n0), .int (Int32.ofNat n1)] ml_X11_395 cv_J9_min_7cf53 dX11_copy_8 rfl rfl (Nat.le_of_ble_eq_true rfl) (kqi (v_J9_min_7cf53 (d := d) (Q := qi h L (fun v I' => I' = I ∧ v = (if (Int32.ofNat n1) < (Int32.ofNat n0) then (Int32.ofNat n1) else (Int32.ofNat n0) : Int32))) (Int32.ofNat n0) (Int32.ofNat n1) ⟨rfl, rfl, _, rfl, rfl, rfl⟩) (fun v1 I2 hv => ?_))
  rw [hv.1, hv.2]
  obtain ⟨hn3, hW⟩ := hW
  obtain ⟨hn4, hW⟩ := hW
  obtain ⟨hn5, hW⟩ := hW
  refine J.copyI ml_X11_400 dX11_copy_11 (Nat.le_of_ble_eq_true rfl) hl0 hk0 hl1 hk1 (by decide) (by decide) hn3 hn4 hn5 ac_native ac_static inJ10 ?_
  exact J.retv dX11_copy_14 rfl hW

theorem MK.one {h : mS} {b : Nat} {q : Nat × Nat} (hb : h.2.2 = b + 1) (hz : ∀ a i, b ≤ a → h.2.1 a i = none) (hk : h.1 b = q) : MK h h b [q] [] [] := by
  refine ⟨hb, fun j p hj => ?_, fun q hq => (by cases hq), fun q hq => (by cases hq), fun a _ => ⟨rfl, rfl⟩, fun a i h1 _ _ => hz a i h1⟩
  match j, hj with
  | 0, hj => simp at hj; rw [← hj]; exact hk
theorem MK.z {h0 h : mS} {b : Nat} {ks : List (Nat × Nat)} {rs : List (Nat × Nat × Nat)} (m : MK h0 h b ks rs []) (l : Nat) (hf : (rs.all fun q => decide (q.1 < l)) = true) : ∀ a i, b + l ≤ a → h.2.1 a i = none := fun a i ha =>
  m.2.2.2.2.2 a i (by omega) (fun q hq e => by
    have : q.1 < l := by simpa using List.all_eq_true.mp hf q hq
    omega) (fun q hq => by cases hq)
def fiI (I : mI) (a n : Nat) (x : Int32) : mI := fun c j => if c = a ∧ j < n then x else I c j
section NV
variable {E : Envt} {d : Nat} {Q : Pst} {h : mS} {I : mI} {L : mL}
theorem fiI_s {a k : Nat} {x : Int32} : uI (fiI I a k x) a k x = fiI I a (k + 1) x := by
  funext c j
  unfold uI fiI
  by_cases c1 : c = a
  · subst c1
    by_cases c2 : j = k
    · subst c2; simp
    · by_cases c3 : j < k
      · have : j < k + 1 := by omega
        simp [c2, c3, this]
      · have : ¬ j < k + 1 := by omega
        simp [c2, c3, this]
  · simp [c1]
theorem n_fill {a0 n0 : Nat} {x1 : Int32} (hl0 : a0 < h.2.2) (hk0 : h.1 a0 = (14, n0)) (hn : n0 < 2 ^ 31) (hQ : Q none h (fiI I a0 n0 x1) L) : (CT E mJ7_fill_53178 d 0 0 [.ref (eB E + a0), .int x1] h I L Q) := by
  refine v_J7_fill_53178 x1 hl0 hk0 ?_
  have K : ∀ k, k ≤ n0 → (J E mJ7_fill_53178 d Q 0 0 5 [some (.ref (eB E + a0)), some (.int x1), some (.int (nI k)), some (.int (nI n0))] [] h (fiI I a0 k x1) L) := by
    refine dn n0 ?_ ?_
    · exact v_J7_fill_53178_5 hl0 hk0 _ _ _ (br_t (nI_le (Nat.le_refl _) hn) hQ)
    · intro k hk ih
      refine v_J7_fill_53178_5 hl0 hk0 _ _ _ (br_f (nI_ge hk hn) ⟨vp_in_nI hk hn, ?_⟩)
      rw [nI_clamp (by omega), fiI_s, nI_1]
      exact ih
  have e : fiI I a0 0 x1 = I := by funext c j; unfold fiI; rw [if_neg (by omega)]
  have z := K 0 (by omega)
  rw [e] at z
  exact z
theorem n_copy {a0 a1 n0 : Nat} (hl0 : a0 < h.2.2) (hk0 : h.1 a0 = (14, n0)) (hl1 : a1 < h.2.2) (hk1 : h.1 a1 = (14, n0)) (hn : n0 < 2 ^ 31) (hQ : Q none h (cpI I a0 a1 0 0 n0) L) : (CT E mX11_copy (d + 1) 0 0 [.ref (eB E + a0), .ref (eB E + a1)] h I L Q) := by
  refine v_X11_copy hl0 hk0 hl1 hk1 ?_
  have e : (if Int32.ofNat n0 < Int32.ofNat n0 then Int32.ofNat n0 else Int32.ofNat n0 : Int32) = nI n0 := by split <;> rfl
  rw [e, nI_clamp hn]
  exact ⟨nI_pos hn, by omega, by omega, hQ⟩
end NV
theorem nfl {N : Nat} (t : Nat → FieldType) (h : (List.range N).all (fun i => decide (t i ≠ .float ∧ t i ≠ .double)) = true) : ∀ i, i < N → t i ≠ .float ∧ t i ≠ .double := fun i hi => by
  simpa using List.all_eq_true.mp h i (List.mem_range.mpr hi)
theorem nfl0 : ∀ i, i < 10 → tyOf 0 i ≠ .float ∧ tyOf 0 i ≠ .double := by decide
theorem nfl1 : ∀ i, i < 5 → tyOf 1 i ≠ .float ∧ tyOf 1 i ≠ .double := by decide
theorem nfl2 : ∀ i, i < 10 → tyOf 2 i ≠ .float ∧ tyOf 2 i ≠ .double := by decide
theorem nfl3 : ∀ i, i < 8 → tyOf 3 i ≠ .float ∧ tyOf 3 i ≠ .double := by decide
theorem nfl4 : ∀ i, i < 12 → tyOf 4 i ≠ .float ∧ tyOf 4 i ≠ .double := by decide
theorem nfl5 : ∀ i, i < 7 → tyOf 5 i ≠ .float ∧ tyOf 5 i ≠ .double := by decide
theorem nfl6 : ∀ i, i < 15 → tyOf 6 i ≠ .float ∧ tyOf 6 i ≠ .double := by decide
theorem nfl7 : ∀ i, i < 10 → tyOf 7 i ≠ .float ∧ tyOf 7 i ≠ .double := by decide
theorem nfl8 : ∀ i, i < 12 → tyOf 8 i ≠ .float ∧ tyOf 8 i ≠ .double := by decide
theorem nfl9 : ∀ i, i < 9 → tyOf 9 i ≠ .float ∧ tyOf 9 i ≠ .double := by decide
theorem nfl10 : ∀ i, i < 8 → tyOf 10 i ≠ .float ∧ tyOf 10 i ≠ .double := by decide
theorem nfl11 : ∀ i, i < 7 → tyOf 11 i ≠ .float ∧ tyOf 11 i ≠ .double := by decide
theorem nfl12 : ∀ i, i < 83 → tyOf 12 i ≠ .float ∧ tyOf 12 i ≠ .double := by decide
def f_X1 (b : Nat) (I : mI) : mI := I
set_option maxRecDepth 100000 in
set_option maxHeartbeats 4000000 in
theorem k_X1_init {E : Envt} {d : Nat} {Q : Pst} {h : mS} {I : mI} {L : mL} {b : Nat}  (hb : h.2.2 = b + 1) (hz : ∀ a i, b ≤ a → h.2.1 a i = none) (hk : h.1 b = (1, 0)) (hQ : ∀ h', MK h h' b [(1, 0), (14, 8), (14, 8), (14, 8), (14, 8)] [(0, 4, 4), (0, 3, 3), (0, 2, 2), (0, 1, 1)] [] → Q none h' (f_X1 b I) L) : CT E mX1_init (d + 1) 4 (32) [.ref (eB E + b)] h I L Q := by
  have m0 : MK h h b [(1, 0)] [] [] := MK.one hb hz hk
  refine CT.of (by decide) [some (.ref (eB E + (b + 0)))] rfl (Nat.le_of_ble_eq_true rfl) ?_
  refine J.aload_n dX1_init_0 rfl rfl ?_
  refine J.objInit ml_X1_3 oi1 oi2 dX1_init_1 (Nat.le_of_ble_eq_true rfl) ?_
  refine J.aload_n dX1_init_4 rfl rfl ?_
  refine J.bipush (v := 8) dX1_init_5 (by decide) ?_
  refine mk_I m0 (bc := 3) (bs := 24) (l := 1) (ks' := [(1, 0), (14, 8)]) rfl rfl (by decide) (by decide) (by decide) dX1_init_7 (fun h1 m1 => ?_)
  refine mk_put (j := 0) (t := 1) m1 ff_X1_9 rfl rfl dX1_init_9 rfl (by decide) (by decide) (fun h2 m2 => ?_)
  refine J.aload_n dX1_init_12 rfl rfl ?_
  refine J.bipush (v := 8) dX1_init_13 (by decide) ?_
  refine mk_I m2 (bc := 2) (bs := 16) (l := 2) (ks' := [(1, 0), (14, 8), (14, 8)]) rfl rfl (by decide) (by decide) (by decide) dX1_init_15 (fun h3 m3 => ?_)
  refine mk_put (j := 0) (t := 2) m3 ff_X1_15 rfl rfl dX1_init_17 rfl (by decide) (by decide) (fun h4 m4 => ?_)
  refine J.aload_n dX1_init_20 rfl rfl ?_
  refine J.bipush (v := 8) dX1_init_21 (by decide) ?_
  refine mk_I m4 (bc := 1) (bs := 8) (l := 3) (ks' := [(1, 0), (14, 8), (14, 8), (14, 8)]) rfl rfl (by decide) (by decide) (by decide) dX1_init_23 (fun h5 m5 => ?_)
  refine mk_put (j := 0) (t := 3) m5 ff_X1_18 rfl rfl dX1_init_25 rfl (by decide) (by decide) (fun h6 m6 => ?_)
  refine J.aload_n dX1_init_28 rfl rfl ?_
  refine J.bipush (v := 8) dX1_init_29 (by decide) ?_
  refine mk_I m6 (bc := 0) (bs := 0) (l := 4) (ks' := [(1, 0), (14, 8), (14, 8), (14, 8), (14, 8)]) rfl rfl (by decide) (by decide) (by decide) dX1_init_31 (fun h7 m7 => ?_)
  refine mk_put (j := 0) (t := 4) m7 ff_X1_21 rfl rfl dX1_init_33 rfl (by decide) (by decide) (fun h8 m8 => ?_)
  exact J.retv dX1_init_36 rfl (hQ h8 m8)
def f_X7 (b : Nat) (I : mI) : mI := I
set_option maxRecDepth 100000 in
set_option maxHeartbeats 4000000 in
theorem k_X7_init {E : Envt} {d : Nat} {Q : Pst} {h : mS} {I : mI} {L : mL} {b : Nat}  (hb : h.2.2 = b + 1) (hz : ∀ a i, b ≤ a → h.2.1 a i = none) (hk : h.1 b = (7, 0)) (hQ : ∀ h', MK h h' b [(7, 0), (14, 20), (14, 20), (14, 20), (14, 20), (14, 20), (14, 20), (16, 20), (16, 20), (16, 20)] [(0, 9, 9), (0, 8, 8), (0, 7, 7), (0, 6, 6), (0, 5, 5), (0, 4, 4), (0, 3, 3), (0, 2, 2), (0, 1, 1)] [] → Q none h' (f_X7 b I) L) : CT E mX7_init (d + 1) 9 (180) [.ref (eB E + b)] h I L Q := by
  have m0 : MK h h b [(7, 0)] [] [] := MK.one hb hz hk
  refine CT.of (by decide) [some (.ref (eB E + (b + 0)))] rfl (Nat.le_of_ble_eq_true rfl) ?_
  refine J.aload_n dX7_init_0 rfl rfl ?_
  refine J.objInit ml_X7_3 oi1 oi2 dX7_init_1 (Nat.le_of_ble_eq_true rfl) ?_
  refine J.aload_n dX7_init_4 rfl rfl ?_
  refine J.bipush (v := 20) dX7_init_5 (by decide) ?_
  refine mk_I m0 (bc := 8) (bs := 160) (l := 1) (ks' := [(7, 0), (14, 20)]) rfl rfl (by decide) (by decide) (by decide) dX7_init_7 (fun h1 m1 => ?_)
  refine mk_put (j := 0) (t := 1) m1 ff_X7_9 rfl rfl dX7_init_9 rfl (by decide) (by decide) (fun h2 m2 => ?_)
  refine J.aload_n dX7_init_12 rfl rfl ?_
  refine J.bipush (v := 20) dX7_init_13 (by decide) ?_
  refine mk_I m2 (bc := 7) (bs := 140) (l := 2) (ks' := [(7, 0), (14, 20), (14, 20)]) rfl rfl (by decide) (by decide) (by decide) dX7_init_15 (fun h3 m3 => ?_)
  refine mk_put (j := 0) (t := 2) m3 ff_X7_15 rfl rfl dX7_init_17 rfl (by decide) (by decide) (fun h4 m4 => ?_)
  refine J.aload_n dX7_init_20 rfl rfl ?_
  refine J.bipush (v := 20) dX7_init_21 (by decide) ?_
  refine mk_I m4 (bc := 6) (bs := 120) (l := 3) (ks' := [(7, 0), (14, 20), (14, 20), (14, 20)]) rfl rfl (by decide) (by decide) (by decide) dX7_init_23 (fun h5 m5 => ?_)
  refine mk_put (j := 0) (t := 3) m5 ff_X7_18 rfl rfl dX7_init_25 rfl (by decide) (by decide) (fun h6 m6 => ?_)
  refine J.aload_n dX7_init_28 rfl rfl ?_
  refine J.bipush (v := 20) dX7_init_29 (by decide) ?_
  refine mk_I m6 (bc := 5) (bs := 100) (l := 4) (ks' := [(7, 0), (14, 20), (14, 20), (14, 20), (14, 20)]) rfl rfl (by decide) (by decide) (by decide) dX7_init_31 (fun h7 m7 => ?_)
  refine mk_put (j := 0) (t := 4) m7 ff_X7_21 rfl rfl dX7_init_33 rfl (by decide) (by decide) (fun h8 m8 => ?_)
  refine J.aload_n dX7_init_36 rfl rfl ?_
  refine J.bipush (v := 20) dX7_init_37 (by decide) ?_
  refine mk_I m8 (bc := 4) (bs := 80) (l := 5) (ks' := [(7, 0), (14, 20), (14, 20), (14, 20), (14, 20), (14, 20)]) rfl rfl (by decide) (by decide) (by decide) dX7_init_39 (fun h9 m9 => ?_)
  refine mk_put (j := 0) (t := 5) m9 ff_X7_24 rfl rfl dX7_init_41 rfl (by decide) (by decide) (fun h10 m10 => ?_)
  refine J.aload_n dX7_init_44 rfl rfl ?_
  refine J.bipush (v := 20) dX7_init_45 (by decide) ?_
  refine mk_I m10 (bc := 3) (bs := 60) (l := 6) (ks' := [(7, 0), (14, 20), (14, 20), (14, 20), (14, 20), (14, 20), (14, 20)]) rfl rfl (by decide) (by decide) (by decide) dX7_init_47 (fun h11 m11 => ?_)
  refine mk_put (j := 0) (t := 6) m11 ff_X7_27 rfl rfl dX7_init_49 rfl (by decide) (by decide) (fun h12 m12 => ?_)
  refine J.aload_n dX7_init_52 rfl rfl ?_
  refine J.bipush (v := 20) dX7_init_53 (by decide) ?_
  refine mk_Z m12 (bc := 2) (bs := 40) (l := 7) (ks' := [(7, 0), (14, 20), (14, 20), (14, 20), (14, 20), (14, 20), (14, 20), (16, 20)]) rfl rfl (by decide) (by decide) (by decide) dX7_init_55 (fun h13 m13 => ?_)
  refine mk_put (j := 0) (t := 7) m13 ff_X7_30 rfl rfl dX7_init_57 rfl (by decide) (by decide) (fun h14 m14 => ?_)
  refine J.aload_n dX7_init_60 rfl rfl ?_
  refine J.bipush (v := 20) dX7_init_61 (by decide) ?_
  refine mk_Z m14 (bc := 1) (bs := 20) (l := 8) (ks' := [(7, 0), (14, 20), (14, 20), (14, 20), (14, 20), (14, 20), (14, 20), (16, 20), (16, 20)]) rfl rfl (by decide) (by decide) (by decide) dX7_init_63 (fun h15 m15 => ?_)
  refine mk_put (j := 0) (t := 8) m15 ff_X7_34 rfl rfl dX7_init_65 rfl (by decide) (by decide) (fun h16 m16 => ?_)
  refine J.aload_n dX7_init_68 rfl rfl ?_
  refine J.bipush (v := 20) dX7_init_69 (by decide) ?_
  refine mk_Z m16 (bc := 0) (bs := 0) (l := 9) (ks' := [(7, 0), (14, 20), (14, 20), (14, 20), (14, 20), (14, 20), (14, 20), (16, 20), (16, 20), (16, 20)]) rfl rfl (by decide) (by decide) (by decide) dX7_init_71 (fun h17 m17 => ?_)
  refine mk_put (j := 0) (t := 9) m17 ff_X7_37 rfl rfl dX7_init_73 rfl (by decide) (by decide) (fun h18 m18 => ?_)
  exact J.retv dX7_init_76 rfl (hQ h18 m18)
def f_X5 (b : Nat) (I : mI) : mI := (cpI (uI (uI (uI (uI (uI (fiI I (b + 5) 25 (-1)) (b + 5) 0 0) (b + 5) 6 0) (b + 5) 12 0) (b + 5) 18 0) (b + 5) 24 0) (b + 5) (b + 6) 0 0 25)
set_option maxRecDepth 100000 in
set_option maxHeartbeats 4000000 in
theorem k_X5_init {E : Envt} {d : Nat} {Q : Pst} {h : mS} {I : mI} {L : mL} {b : Nat}  (hb : h.2.2 = b + 1) (hz : ∀ a i, b ≤ a → h.2.1 a i = none) (hk : h.1 b = (5, 0)) (hQ : ∀ h', MK h h' b [(5, 0), (14, 60), (14, 60), (14, 60), (14, 60), (14, 25), (14, 25)] [(0, 6, 6), (0, 5, 5), (0, 4, 4), (0, 3, 3), (0, 2, 2), (0, 1, 1)] [] → Q none h' (f_X5 b I) L) : CT E mX5_init (d + 2) 6 (290) [.ref (eB E + b)] h I L Q := by
  have m0 : MK h h b [(5, 0)] [] [] := MK.one hb hz hk
  refine CT.of (by decide) [some (.ref (eB E + (b + 0))), none] rfl (Nat.le_of_ble_eq_true rfl) ?_
  refine J.aload_n dX5_init_0 rfl rfl ?_
  refine J.objInit ml_X5_3 oi1 oi2 dX5_init_1 (Nat.le_of_ble_eq_true rfl) ?_
  refine J.aload_n dX5_init_4 rfl rfl ?_
  refine J.bipush (v := 60) dX5_init_5 (by decide) ?_
  refine mk_I m0 (bc := 5) (bs := 230) (l := 1) (ks' := [(5, 0), (14, 60)]) rfl rfl (by decide) (by decide) (by decide) dX5_init_7 (fun h1 m1 => ?_)
  refine mk_put (j := 0) (t := 1) m1 ff_X5_9 rfl rfl dX5_init_9 rfl (by decide) (by decide) (fun h2 m2 => ?_)
  refine J.aload_n dX5_init_12 rfl rfl ?_
  refine J.bipush (v := 60) dX5_init_13 (by decide) ?_
  refine mk_I m2 (bc := 4) (bs := 170) (l := 2) (ks' := [(5, 0), (14, 60), (14, 60)]) rfl rfl (by decide) (by decide) (by decide) dX5_init_15 (fun h3 m3 => ?_)
  refine mk_put (j := 0) (t := 2) m3 ff_X5_15 rfl rfl dX5_init_17 rfl (by decide) (by decide) (fun h4 m4 => ?_)
  refine J.aload_n dX5_init_20 rfl rfl ?_
  refine J.bipush (v := 60) dX5_init_21 (by decide) ?_
  refine mk_I m4 (bc := 3) (bs := 110) (l := 3) (ks' := [(5, 0), (14, 60), (14, 60), (14, 60)]) rfl rfl (by decide) (by decide) (by decide) dX5_init_23 (fun h5 m5 => ?_)
  refine mk_put (j := 0) (t := 3) m5 ff_X5_18 rfl rfl dX5_init_25 rfl (by decide) (by decide) (fun h6 m6 => ?_)
  refine J.aload_n dX5_init_28 rfl rfl ?_
  refine J.bipush (v := 60) dX5_init_29 (by decide) ?_
  refine mk_I m6 (bc := 2) (bs := 50) (l := 4) (ks' := [(5, 0), (14, 60), (14, 60), (14, 60), (14, 60)]) rfl rfl (by decide) (by decide) (by decide) dX5_init_31 (fun h7 m7 => ?_)
  refine mk_put (j := 0) (t := 4) m7 ff_X5_21 rfl rfl dX5_init_33 rfl (by decide) (by decide) (fun h8 m8 => ?_)
  refine J.aload_n dX5_init_36 rfl rfl ?_
  refine J.bipush (v := 25) dX5_init_37 (by decide) ?_
  refine mk_I m8 (bc := 1) (bs := 25) (l := 5) (ks' := [(5, 0), (14, 60), (14, 60), (14, 60), (14, 60), (14, 25)]) rfl rfl (by decide) (by decide) (by decide) dX5_init_39 (fun h9 m9 => ?_)
  refine mk_put (j := 0) (t := 5) m9 ff_X5_24 rfl rfl dX5_init_41 rfl (by decide) (by decide) (fun h10 m10 => ?_)
  refine J.aload_n dX5_init_44 rfl rfl ?_
  refine J.bipush (v := 25) dX5_init_45 (by decide) ?_
  refine mk_I m10 (bc := 0) (bs := 0) (l := 6) (ks' := [(5, 0), (14, 60), (14, 60), (14, 60), (14, 60), (14, 25), (14, 25)]) rfl rfl (by decide) (by decide) (by decide) dX5_init_47 (fun h11 m11 => ?_)
  refine mk_put (j := 0) (t := 6) m11 ff_X5_27 rfl rfl dX5_init_49 rfl (by decide) (by decide) (fun h12 m12 => ?_)
  refine J.aload_n dX5_init_52 rfl rfl ?_
  refine J.getR (r := b + 5) fl_X5_24 rfl dX5_init_53 (m12.lt 0 rfl) (m12.kd 0 rfl) (m12.rf (0, 5, 5) (by decide)) ?_
  refine J.iconst (v := (-1)) dX5_init_56 (by decide) ?_
  refine J.callS (M' := mJ7_fill_53178) (index := 30) (bc := 0) (bs := 0) (bc' := 0) (bs' := 0) (st := []) [.ref (eB E + (b + 5)), .int (-1)] ml_X5_30 cv_J7_fill_53178 dX5_init_57 rfl rfl (Nat.le_of_ble_eq_true rfl) ?_
  refine n_fill (d := d + 1) (m12.lt 5 rfl) (m12.kd 5 rfl) (by decide) ?_
  refine J.iconst (v := 0) dX5_init_60 (by decide) ?_
  refine J.istore_n (vs' := [some (.ref (eB E + (b + 0))), some (.int 0)]) dX5_init_61 rfl (by decide) rfl ?_
  refine J.iload_n dX5_init_62 rfl rfl ?_
  refine J.iconst (v := 5) dX5_init_63 (by decide) ?_
  refine J.ic_ge 84 dX5_init_64 (by decide) (fun hc => absurd hc (by decide)) (fun _ => ?_)
  refine J.aload_n dX5_init_67 rfl rfl ?_
  refine J.getR (r := b + 5) fl_X5_24 rfl dX5_init_68 (m12.lt 0 rfl) (m12.kd 0 rfl) (m12.rf (0, 5, 5) (by decide)) ?_
  refine J.iload_n dX5_init_71 rfl rfl ?_
  refine J.iconst (v := 5) dX5_init_72 (by decide) ?_
  refine J.imul dX5_init_73 ?_
  rw [show (0 : Int32) * 5 = 0 from by decide]
  refine J.iload_n dX5_init_74 rfl rfl ?_
  refine J.iadd dX5_init_75 ?_
  rw [show (0 : Int32) + 0 = 0 from by decide]
  refine J.iconst (v := 0) dX5_init_76 (by decide) ?_
  refine J.iast dX5_init_77 (m12.lt 5 rfl) (m12.kd 5 rfl) (by unfold vp_in; decide) ?_
  rw [show (0 : Int32).toNatClampNeg = 0 from by decide]
  refine J.iinc (v := 1) (vs' := [some (.ref (eB E + (b + 0))), some (.int 1)]) dX5_init_78 rfl (by decide) (by decide) rfl ?_
  refine J.goto 62 dX5_init_81 (by decide) ?_
  refine J.iload_n dX5_init_62 rfl rfl ?_
  refine J.iconst (v := 5) dX5_init_63 (by decide) ?_
  refine J.ic_ge 84 dX5_init_64 (by decide) (fun hc => absurd hc (by decide)) (fun _ => ?_)
  refine J.aload_n dX5_init_67 rfl rfl ?_
  refine J.getR (r := b + 5) fl_X5_24 rfl dX5_init_68 (m12.lt 0 rfl) (m12.kd 0 rfl) (m12.rf (0, 5, 5) (by decide)) ?_
  refine J.iload_n dX5_init_71 rfl rfl ?_
  refine J.iconst (v := 5) dX5_init_72 (by decide) ?_
  refine J.imul dX5_init_73 ?_
  rw [show (1 : Int32) * 5 = 5 from by decide]
  refine J.iload_n dX5_init_74 rfl rfl ?_
  refine J.iadd dX5_init_75 ?_
  rw [show (5 : Int32) + 1 = 6 from by decide]
  refine J.iconst (v := 0) dX5_init_76 (by decide) ?_
  refine J.iast dX5_init_77 (m12.lt 5 rfl) (m12.kd 5 rfl) (by unfold vp_in; decide) ?_
  rw [show (6 : Int32).toNatClampNeg = 6 from by decide]
  refine J.iinc (v := 2) (vs' := [some (.ref (eB E + (b + 0))), some (.int 2)]) dX5_init_78 rfl (by decide) (by decide) rfl ?_
  refine J.goto 62 dX5_init_81 (by decide) ?_
  refine J.iload_n dX5_init_62 rfl rfl ?_
  refine J.iconst (v := 5) dX5_init_63 (by decide) ?_
  refine J.ic_ge 84 dX5_init_64 (by decide) (fun hc => absurd hc (by decide)) (fun _ => ?_)
  refine J.aload_n dX5_init_67 rfl rfl ?_
  refine J.getR (r := b + 5) fl_X5_24 rfl dX5_init_68 (m12.lt 0 rfl) (m12.kd 0 rfl) (m12.rf (0, 5, 5) (by decide)) ?_
  refine J.iload_n dX5_init_71 rfl rfl ?_
  refine J.iconst (v := 5) dX5_init_72 (by decide) ?_
  refine J.imul dX5_init_73 ?_
  rw [show (2 : Int32) * 5 = 10 from by decide]
  refine J.iload_n dX5_init_74 rfl rfl ?_
  refine J.iadd dX5_init_75 ?_
  rw [show (10 : Int32) + 2 = 12 from by decide]
  refine J.iconst (v := 0) dX5_init_76 (by decide) ?_
  refine J.iast dX5_init_77 (m12.lt 5 rfl) (m12.kd 5 rfl) (by unfold vp_in; decide) ?_
  rw [show (12 : Int32).toNatClampNeg = 12 from by decide]
  refine J.iinc (v := 3) (vs' := [some (.ref (eB E + (b + 0))), some (.int 3)]) dX5_init_78 rfl (by decide) (by decide) rfl ?_
  refine J.goto 62 dX5_init_81 (by decide) ?_
  refine J.iload_n dX5_init_62 rfl rfl ?_
  refine J.iconst (v := 5) dX5_init_63 (by decide) ?_
  refine J.ic_ge 84 dX5_init_64 (by decide) (fun hc => absurd hc (by decide)) (fun _ => ?_)
  refine J.aload_n dX5_init_67 rfl rfl ?_
  refine J.getR (r := b + 5) fl_X5_24 rfl dX5_init_68 (m12.lt 0 rfl) (m12.kd 0 rfl) (m12.rf (0, 5, 5) (by decide)) ?_
  refine J.iload_n dX5_init_71 rfl rfl ?_
  refine J.iconst (v := 5) dX5_init_72 (by decide) ?_
  refine J.imul dX5_init_73 ?_
  rw [show (3 : Int32) * 5 = 15 from by decide]
  refine J.iload_n dX5_init_74 rfl rfl ?_
  refine J.iadd dX5_init_75 ?_
  rw [show (15 : Int32) + 3 = 18 from by decide]
  refine J.iconst (v := 0) dX5_init_76 (by decide) ?_
  refine J.iast dX5_init_77 (m12.lt 5 rfl) (m12.kd 5 rfl) (by unfold vp_in; decide) ?_
  rw [show (18 : Int32).toNatClampNeg = 18 from by decide]
  refine J.iinc (v := 4) (vs' := [some (.ref (eB E + (b + 0))), some (.int 4)]) dX5_init_78 rfl (by decide) (by decide) rfl ?_
  refine J.goto 62 dX5_init_81 (by decide) ?_
  refine J.iload_n dX5_init_62 rfl rfl ?_
  refine J.iconst (v := 5) dX5_init_63 (by decide) ?_
  refine J.ic_ge 84 dX5_init_64 (by decide) (fun hc => absurd hc (by decide)) (fun _ => ?_)
  refine J.aload_n dX5_init_67 rfl rfl ?_
  refine J.getR (r := b + 5) fl_X5_24 rfl dX5_init_68 (m12.lt 0 rfl) (m12.kd 0 rfl) (m12.rf (0, 5, 5) (by decide)) ?_
  refine J.iload_n dX5_init_71 rfl rfl ?_
  refine J.iconst (v := 5) dX5_init_72 (by decide) ?_
  refine J.imul dX5_init_73 ?_
  rw [show (4 : Int32) * 5 = 20 from by decide]
  refine J.iload_n dX5_init_74 rfl rfl ?_
  refine J.iadd dX5_init_75 ?_
  rw [show (20 : Int32) + 4 = 24 from by decide]
  refine J.iconst (v := 0) dX5_init_76 (by decide) ?_
  refine J.iast dX5_init_77 (m12.lt 5 rfl) (m12.kd 5 rfl) (by unfold vp_in; decide) ?_
  rw [show (24 : Int32).toNatClampNeg = 24 from by decide]
  refine J.iinc (v := 5) (vs' := [some (.ref (eB E + (b + 0))), some (.int 5)]) dX5_init_78 rfl (by decide) (by decide) rfl ?_
  refine J.goto 62 dX5_init_81 (by decide) ?_
  refine J.iload_n dX5_init_62 rfl rfl ?_
  refine J.iconst (v := 5) dX5_init_63 (by decide) ?_
  refine J.ic_ge 84 dX5_init_64 (by decide) (fun _ => ?_) (fun hc => absurd hc (by decide))
  refine J.aload_n dX5_init_84 rfl rfl ?_
  refine J.getR (r := b + 5) fl_X5_24 rfl dX5_init_85 (m12.lt 0 rfl) (m12.kd 0 rfl) (m12.rf (0, 5, 5) (by decide)) ?_
  refine J.aload_n dX5_init_88 rfl rfl ?_
  refine J.getR (r := b + 6) fl_X5_27 rfl dX5_init_89 (m12.lt 0 rfl) (m12.kd 0 rfl) (m12.rf (0, 6, 6) (by decide)) ?_
  refine J.callSN (M' := mX11_copy) (index := 36) (bc := 0) (bs := 0) (bc' := 0) (bs' := 0) (st := []) [.ref (eB E + (b + 5)), .ref (eB E + (b + 6))] nk_X5_36 cv_X11_copy dX5_init_92 rfl rfl (Nat.le_of_ble_eq_true rfl) ?_
  refine n_copy (d := d) (m12.lt 5 rfl) (m12.kd 5 rfl) (m12.lt 6 rfl) (m12.kd 6 rfl) (by decide) ?_
  exact J.retv dX5_init_95 rfl (hQ h12 m12)
def f_X4 (b : Nat) (I : mI) : mI := I
set_option maxRecDepth 100000 in
set_option maxHeartbeats 4000000 in
theorem k_X4_init {E : Envt} {d : Nat} {Q : Pst} {h : mS} {I : mI} {L : mL} {b : Nat}  (hb : h.2.2 = b + 1) (hz : ∀ a i, b ≤ a → h.2.1 a i = none) (hk : h.1 b = (4, 0)) (hQ : ∀ h', MK h h' b [(4, 0), (14, 30), (14, 30), (14, 30), (14, 30), (14, 30), (14, 30), (14, 30), (14, 30), (14, 330), (18, 30), (18, 30)] [(0, 11, 11), (0, 10, 10), (0, 9, 9), (0, 8, 8), (0, 7, 7), (0, 6, 6), (0, 5, 5), (0, 4, 4), (0, 3, 3), (0, 2, 2), (0, 1, 1)] [] → Q none h' (f_X4 b I) L) : CT E mX4_init (d + 1) 11 (630) [.ref (eB E + b)] h I L Q := by
  have m0 : MK h h b [(4, 0)] [] [] := MK.one hb hz hk
  refine CT.of (by decide) [some (.ref (eB E + (b + 0)))] rfl (Nat.le_of_ble_eq_true rfl) ?_
  refine J.aload_n dX4_init_0 rfl rfl ?_
  refine J.objInit ml_X4_3 oi1 oi2 dX4_init_1 (Nat.le_of_ble_eq_true rfl) ?_
  refine J.aload_n dX4_init_4 rfl rfl ?_
  refine J.bipush (v := 30) dX4_init_5 (by decide) ?_
  refine mk_I m0 (bc := 10) (bs := 600) (l := 1) (ks' := [(4, 0), (14, 30)]) rfl rfl (by decide) (by decide) (by decide) dX4_init_7 (fun h1 m1 => ?_)
  refine mk_put (j := 0) (t := 1) m1 ff_X4_9 rfl rfl dX4_init_9 rfl (by decide) (by decide) (fun h2 m2 => ?_)
  refine J.aload_n dX4_init_12 rfl rfl ?_
  refine J.bipush (v := 30) dX4_init_13 (by decide) ?_
  refine mk_I m2 (bc := 9) (bs := 570) (l := 2) (ks' := [(4, 0), (14, 30), (14, 30)]) rfl rfl (by decide) (by decide) (by decide) dX4_init_15 (fun h3 m3 => ?_)
  refine mk_put (j := 0) (t := 2) m3 ff_X4_15 rfl rfl dX4_init_17 rfl (by decide) (by decide) (fun h4 m4 => ?_)
  refine J.aload_n dX4_init_20 rfl rfl ?_
  refine J.bipush (v := 30) dX4_init_21 (by decide) ?_
  refine mk_I m4 (bc := 8) (bs := 540) (l := 3) (ks' := [(4, 0), (14, 30), (14, 30), (14, 30)]) rfl rfl (by decide) (by decide) (by decide) dX4_init_23 (fun h5 m5 => ?_)
  refine mk_put (j := 0) (t := 3) m5 ff_X4_18 rfl rfl dX4_init_25 rfl (by decide) (by decide) (fun h6 m6 => ?_)
  refine J.aload_n dX4_init_28 rfl rfl ?_
  refine J.bipush (v := 30) dX4_init_29 (by decide) ?_
  refine mk_I m6 (bc := 7) (bs := 510) (l := 4) (ks' := [(4, 0), (14, 30), (14, 30), (14, 30), (14, 30)]) rfl rfl (by decide) (by decide) (by decide) dX4_init_31 (fun h7 m7 => ?_)
  refine mk_put (j := 0) (t := 4) m7 ff_X4_21 rfl rfl dX4_init_33 rfl (by decide) (by decide) (fun h8 m8 => ?_)
  refine J.aload_n dX4_init_36 rfl rfl ?_
  refine J.bipush (v := 30) dX4_init_37 (by decide) ?_
  refine mk_I m8 (bc := 6) (bs := 480) (l := 5) (ks' := [(4, 0), (14, 30), (14, 30), (14, 30), (14, 30), (14, 30)]) rfl rfl (by decide) (by decide) (by decide) dX4_init_39 (fun h9 m9 => ?_)
  refine mk_put (j := 0) (t := 5) m9 ff_X4_24 rfl rfl dX4_init_41 rfl (by decide) (by decide) (fun h10 m10 => ?_)
  refine J.aload_n dX4_init_44 rfl rfl ?_
  refine J.bipush (v := 30) dX4_init_45 (by decide) ?_
  refine mk_I m10 (bc := 5) (bs := 450) (l := 6) (ks' := [(4, 0), (14, 30), (14, 30), (14, 30), (14, 30), (14, 30), (14, 30)]) rfl rfl (by decide) (by decide) (by decide) dX4_init_47 (fun h11 m11 => ?_)
  refine mk_put (j := 0) (t := 6) m11 ff_X4_27 rfl rfl dX4_init_49 rfl (by decide) (by decide) (fun h12 m12 => ?_)
  refine J.aload_n dX4_init_52 rfl rfl ?_
  refine J.bipush (v := 30) dX4_init_53 (by decide) ?_
  refine mk_I m12 (bc := 4) (bs := 420) (l := 7) (ks' := [(4, 0), (14, 30), (14, 30), (14, 30), (14, 30), (14, 30), (14, 30), (14, 30)]) rfl rfl (by decide) (by decide) (by decide) dX4_init_55 (fun h13 m13 => ?_)
  refine mk_put (j := 0) (t := 7) m13 ff_X4_30 rfl rfl dX4_init_57 rfl (by decide) (by decide) (fun h14 m14 => ?_)
  refine J.aload_n dX4_init_60 rfl rfl ?_
  refine J.bipush (v := 30) dX4_init_61 (by decide) ?_
  refine mk_I m14 (bc := 3) (bs := 390) (l := 8) (ks' := [(4, 0), (14, 30), (14, 30), (14, 30), (14, 30), (14, 30), (14, 30), (14, 30), (14, 30)]) rfl rfl (by decide) (by decide) (by decide) dX4_init_63 (fun h15 m15 => ?_)
  refine mk_put (j := 0) (t := 8) m15 ff_X4_33 rfl rfl dX4_init_65 rfl (by decide) (by decide) (fun h16 m16 => ?_)
  refine J.aload_n dX4_init_68 rfl rfl ?_
  refine J.sipush (v := 330) dX4_init_69 (by decide) ?_
  refine mk_I m16 (bc := 2) (bs := 60) (l := 9) (ks' := [(4, 0), (14, 30), (14, 30), (14, 30), (14, 30), (14, 30), (14, 30), (14, 30), (14, 30), (14, 330)]) rfl rfl (by decide) (by decide) (by decide) dX4_init_72 (fun h17 m17 => ?_)
  refine mk_put (j := 0) (t := 9) m17 ff_X4_36 rfl rfl dX4_init_74 rfl (by decide) (by decide) (fun h18 m18 => ?_)
  refine J.aload_n dX4_init_77 rfl rfl ?_
  refine J.bipush (v := 30) dX4_init_78 (by decide) ?_
  refine mk_T m18 (bc := 1) (bs := 30) (l := 10) (ks' := [(4, 0), (14, 30), (14, 30), (14, 30), (14, 30), (14, 30), (14, 30), (14, 30), (14, 30), (14, 330), (18, 30)]) rfl rfl cl_X4_39 (by decide) (by decide) (by decide) dX4_init_80 (fun h19 m19 => ?_)
  refine mk_put (j := 0) (t := 10) m19 ff_X4_41 rfl rfl dX4_init_83 rfl (by decide) (by decide) (fun h20 m20 => ?_)
  refine J.aload_n dX4_init_86 rfl rfl ?_
  refine J.bipush (v := 30) dX4_init_87 (by decide) ?_
  refine mk_T m20 (bc := 0) (bs := 0) (l := 11) (ks' := [(4, 0), (14, 30), (14, 30), (14, 30), (14, 30), (14, 30), (14, 30), (14, 30), (14, 30), (14, 330), (18, 30), (18, 30)]) rfl rfl cl_X4_39 (by decide) (by decide) (by decide) dX4_init_89 (fun h21 m21 => ?_)
  refine mk_put (j := 0) (t := 11) m21 ff_X4_45 rfl rfl dX4_init_92 rfl (by decide) (by decide) (fun h22 m22 => ?_)
  exact J.retv dX4_init_95 rfl (hQ h22 m22)
def f_X10 (b : Nat) (nl : Nat) (I : mI) : mI := (uI I b 0 (nI nl))
set_option maxRecDepth 100000 in
set_option maxHeartbeats 4000000 in
theorem k_X10_init {E : Envt} {d : Nat} {Q : Pst} {h : mS} {I : mI} {L : mL} {b : Nat} {nl nt : Nat} {x1 x2 : Int32} (e1 : x1 = nI nl) (e2 : x2 = nI nt) (h1 : nl ≤ 16) (h2 : nt ≤ 64) (hb : h.2.2 = b + 1) (hz : ∀ a i, b ≤ a → h.2.1 a i = none) (hk : h.1 b = (10, 0)) (hQ : ∀ h', MK h h' b [(10, 0), (14, nl), (14, nl), (14, (nl + 1)), (14, nt), (14, nt), (14, nt), (16, nt)] [(0, 7, 7), (0, 6, 6), (0, 5, 5), (0, 4, 4), (0, 3, 3), (0, 2, 2), (0, 1, 1)] [] → Q none h' (f_X10 b nl I) L) : CT E mX10_init (d + 1) 7 (0 + nt + nt + nt + nt + (nl + 1) + nl + nl) [.ref (eB E + b), .int x1, .int x2] h I L Q := by
  subst e1 e2
  have m0 : MK h h b [(10, 0)] [] [] := MK.one hb hz hk
  refine CT.of (by decide) [some (.ref (eB E + (b + 0))), some (.int (nI nl)), some (.int (nI nt))] rfl (Nat.le_of_ble_eq_true rfl) ?_
  refine J.aload_n dX10_init_0 rfl rfl ?_
  refine J.objInit ml_X10_3 oi1 oi2 dX10_init_1 (Nat.le_of_ble_eq_true rfl) ?_
  refine J.aload_n dX10_init_4 rfl rfl ?_
  refine J.iload_n dX10_init_5 rfl rfl ?_
  refine J.putIf ff_X10_9 rfl rfl dX10_init_6 (m0.lt 0 rfl) (m0.kd 0 rfl) ?_
  refine J.aload_n dX10_init_9 rfl rfl ?_
  refine J.iload_n dX10_init_10 rfl rfl ?_
  refine mk_I m0 (bc := 6) (bs := 0 + nt + nt + nt + nt + (nl + 1) + nl) (l := 1) (ks' := [(10, 0), (14, nl)]) rfl rfl (nI_pos (by omega)) (nI_clamp (by omega)) (by omega) dX10_init_11 (fun h1 m1 => ?_)
  refine mk_put (j := 0) (t := 1) m1 ff_X10_15 rfl rfl dX10_init_13 rfl (by decide) (by decide) (fun h2 m2 => ?_)
  refine J.aload_n dX10_init_16 rfl rfl ?_
  refine J.iload_n dX10_init_17 rfl rfl ?_
  refine mk_I m2 (bc := 5) (bs := 0 + nt + nt + nt + nt + (nl + 1)) (l := 2) (ks' := [(10, 0), (14, nl), (14, nl)]) rfl rfl (nI_pos (by omega)) (nI_clamp (by omega)) (by omega) dX10_init_18 (fun h3 m3 => ?_)
  refine mk_put (j := 0) (t := 2) m3 ff_X10_19 rfl rfl dX10_init_20 rfl (by decide) (by decide) (fun h4 m4 => ?_)
  refine J.aload_n dX10_init_23 rfl rfl ?_
  refine J.iload_n dX10_init_24 rfl rfl ?_
  refine J.iconst (v := 1) dX10_init_25 (by decide) ?_
  refine J.iadd dX10_init_26 ?_
  rw [nI_1]
  refine mk_I m4 (bc := 4) (bs := 0 + nt + nt + nt + nt) (l := 3) (ks' := [(10, 0), (14, nl), (14, nl), (14, (nl + 1))]) rfl rfl (nI_pos (by omega)) (nI_clamp (by omega)) (by omega) dX10_init_27 (fun h5 m5 => ?_)
  refine mk_put (j := 0) (t := 3) m5 ff_X10_22 rfl rfl dX10_init_29 rfl (by decide) (by decide) (fun h6 m6 => ?_)
  refine J.aload_n dX10_init_32 rfl rfl ?_
  refine J.iload_n dX10_init_33 rfl rfl ?_
  refine mk_I m6 (bc := 3) (bs := 0 + nt + nt + nt) (l := 4) (ks' := [(10, 0), (14, nl), (14, nl), (14, (nl + 1)), (14, nt)]) rfl rfl (nI_pos (by omega)) (nI_clamp (by omega)) (by omega) dX10_init_34 (fun h7 m7 => ?_)
  refine mk_put (j := 0) (t := 4) m7 ff_X10_25 rfl rfl dX10_init_36 rfl (by decide) (by decide) (fun h8 m8 => ?_)
  refine J.aload_n dX10_init_39 rfl rfl ?_
  refine J.iload_n dX10_init_40 rfl rfl ?_
  refine mk_I m8 (bc := 2) (bs := 0 + nt + nt) (l := 5) (ks' := [(10, 0), (14, nl), (14, nl), (14, (nl + 1)), (14, nt), (14, nt)]) rfl rfl (nI_pos (by omega)) (nI_clamp (by omega)) (by omega) dX10_init_41 (fun h9 m9 => ?_)
  refine mk_put (j := 0) (t := 5) m9 ff_X10_28 rfl rfl dX10_init_43 rfl (by decide) (by decide) (fun h10 m10 => ?_)
  refine J.aload_n dX10_init_46 rfl rfl ?_
  refine J.iload_n dX10_init_47 rfl rfl ?_
  refine mk_I m10 (bc := 1) (bs := 0 + nt) (l := 6) (ks' := [(10, 0), (14, nl), (14, nl), (14, (nl + 1)), (14, nt), (14, nt), (14, nt)]) rfl rfl (nI_pos (by omega)) (nI_clamp (by omega)) (by omega) dX10_init_48 (fun h11 m11 => ?_)
  refine mk_put (j := 0) (t := 6) m11 ff_X10_31 rfl rfl dX10_init_50 rfl (by decide) (by decide) (fun h12 m12 => ?_)
  refine J.aload_n dX10_init_53 rfl rfl ?_
  refine J.iload_n dX10_init_54 rfl rfl ?_
  refine mk_Z m12 (bc := 0) (bs := 0) (l := 7) (ks' := [(10, 0), (14, nl), (14, nl), (14, (nl + 1)), (14, nt), (14, nt), (14, nt), (16, nt)]) rfl rfl (nI_pos (by omega)) (nI_clamp (by omega)) (by omega) dX10_init_55 (fun h13 m13 => ?_)
  refine mk_put (j := 0) (t := 7) m13 ff_X10_34 rfl rfl dX10_init_57 rfl (by decide) (by decide) (fun h14 m14 => ?_)
  exact J.retv dX10_init_60 rfl (hQ h14 m14)
def f_X0 (b : Nat) (I : mI) : mI := (f_X10 (b + 37) 0 (uI (f_X4 (b + 23) (f_X5 (b + 16) (f_X7 (b + 6) (f_X1 (b + 1) I)))) b 9 (-1)))
set_option maxRecDepth 100000 in
set_option maxHeartbeats 4000000 in
theorem k_X0_init {E : Envt} {d : Nat} {Q : Pst} {h : mS} {I : mI} {L : mL} {b : Nat}  (hb : h.2.2 = b + 1) (hz : ∀ a i, b ≤ a → h.2.1 a i = none) (hk : h.1 b = (0, 0)) (hQ : ∀ h', MK h h' b [(0, 0), (1, 0), (14, 8), (14, 8), (14, 8), (14, 8), (7, 0), (14, 20), (14, 20), (14, 20), (14, 20), (14, 20), (14, 20), (16, 20), (16, 20), (16, 20), (5, 0), (14, 60), (14, 60), (14, 60), (14, 60), (14, 25), (14, 25), (4, 0), (14, 30), (14, 30), (14, 30), (14, 30), (14, 30), (14, 30), (14, 30), (14, 30), (14, 330), (18, 30), (18, 30), (18, 7), (13, 500), (10, 0), (14, 0), (14, 0), (14, 1), (14, 0), (14, 0), (14, 0), (16, 0)] [(35, 6, 37), (35, 5, 37), (35, 4, 37), (35, 3, 37), (35, 2, 37), (35, 1, 37), (35, 0, 37), (37, 7, 44), (37, 6, 43), (37, 5, 42), (37, 4, 41), (37, 3, 40), (37, 2, 39), (37, 1, 38), (0, 6, 36), (0, 5, 35), (0, 4, 23), (23, 11, 34), (23, 10, 33), (23, 9, 32), (23, 8, 31), (23, 7, 30), (23, 6, 29), (23, 5, 28), (23, 4, 27), (23, 3, 26), (23, 2, 25), (23, 1, 24), (0, 3, 16), (16, 6, 22), (16, 5, 21), (16, 4, 20), (16, 3, 19), (16, 2, 18), (16, 1, 17), (0, 2, 6), (6, 9, 15), (6, 8, 14), (6, 7, 13), (6, 6, 12), (6, 5, 11), (6, 4, 10), (6, 3, 9), (6, 2, 8), (6, 1, 7), (0, 1, 1), (1, 4, 5), (1, 3, 4), (1, 2, 3), (1, 1, 2)] [] → Q none h' (f_X0 b I) L) : CT E mX0_init (d + 3) 44 (1682) [.ref (eB E + b)] h I L Q := by
  have m0 : MK h h b [(0, 0)] [] [] := MK.one hb hz hk
  refine CT.of (by decide) [some (.ref (eB E + (b + 0))), none, none] rfl (Nat.le_of_ble_eq_true rfl) ?_
  refine J.aload_n dX0_init_0 rfl rfl ?_
  refine J.objInit ml_X0_3 oi1 oi2 dX0_init_1 (Nat.le_of_ble_eq_true rfl) ?_
  refine J.aload_n dX0_init_4 rfl rfl ?_
  refine mk_new m0 (bc := 43) (bs := 1677) (l := 1) (ks' := [(0, 0), (1, 0)]) rfl rfl cls1 nfl1 cl_X0_9 isX1 inX1 dX0_init_5 (fun h1 m1 => ?_)
  refine J.dup dX0_init_8 rfl ?_
  refine J.less (bc' := 39 + 4) (bs' := 1645 + (32)) ?_ (by omega) (by omega)
  refine J.callIN (M' := mX1_init) (index := 11) (bc := 39) (bs := 1645) (bc' := 4) (bs' := 32) (st := [.ref (eB E + (b + 1)), .ref (eB E + (b + 0))]) [] nk_X0_11 cv_X1_init dX0_init_9 rfl rfl (Nat.le_of_ble_eq_true rfl) ?_
  refine k_X1_init (d := d + 1) (b := b + 1)  (show h1.2.2 = (b + 1) + 1 from m1.1) (m1.z 1 (by decide)) (m1.kd 1 rfl) (fun h2 eh2 => ?_)
  have m2 := MK.app (l := 1) (ks2 := [(0, 0), (1, 0), (14, 8), (14, 8), (14, 8), (14, 8)]) (rs2 := [(1, 4, 5), (1, 3, 4), (1, 2, 3), (1, 1, 2)]) m1 eh2 rfl (by decide) rfl rfl (fun q hq => by cases hq)
  refine mk_put (j := 0) (t := 1) m2 ff_X0_12 rfl rfl dX0_init_12 rfl (by decide) (by decide) (fun h3 m3 => ?_)
  refine J.aload_n dX0_init_15 rfl rfl ?_
  refine mk_new m3 (bc := 38) (bs := 1635) (l := 6) (ks' := [(0, 0), (1, 0), (14, 8), (14, 8), (14, 8), (14, 8), (7, 0)]) rfl rfl cls7 nfl7 cl_X0_18 isX7 inX7 dX0_init_16 (fun h4 m4 => ?_)
  refine J.dup dX0_init_19 rfl ?_
  refine J.less (bc' := 29 + 9) (bs' := 1455 + (180)) ?_ (by omega) (by omega)
  refine J.callIN (M' := mX7_init) (index := 20) (bc := 29) (bs := 1455) (bc' := 9) (bs' := 180) (st := [.ref (eB E + (b + 6)), .ref (eB E + (b + 0))]) [] nk_X0_20 cv_X7_init dX0_init_20 rfl rfl (Nat.le_of_ble_eq_true rfl) ?_
  refine k_X7_init (d := d + 1) (b := b + 6)  (show h4.2.2 = (b + 6) + 1 from m4.1) (m4.z 6 (by decide)) (m4.kd 6 rfl) (fun h5 eh5 => ?_)
  have m5 := MK.app (l := 6) (ks2 := [(0, 0), (1, 0), (14, 8), (14, 8), (14, 8), (14, 8), (7, 0), (14, 20), (14, 20), (14, 20), (14, 20), (14, 20), (14, 20), (16, 20), (16, 20), (16, 20)]) (rs2 := [(6, 9, 15), (6, 8, 14), (6, 7, 13), (6, 6, 12), (6, 5, 11), (6, 4, 10), (6, 3, 9), (6, 2, 8), (6, 1, 7), (0, 1, 1), (1, 4, 5), (1, 3, 4), (1, 2, 3), (1, 1, 2)]) m4 eh5 rfl (by decide) rfl rfl (fun q hq => by cases hq)
  refine mk_put (j := 0) (t := 6) m5 ff_X0_21 rfl rfl dX0_init_23 rfl (by decide) (by decide) (fun h6 m6 => ?_)
  refine J.aload_n dX0_init_26 rfl rfl ?_
  refine mk_new m6 (bc := 28) (bs := 1448) (l := 16) (ks' := [(0, 0), (1, 0), (14, 8), (14, 8), (14, 8), (14, 8), (7, 0), (14, 20), (14, 20), (14, 20), (14, 20), (14, 20), (14, 20), (16, 20), (16, 20), (16, 20), (5, 0)]) rfl rfl cls5 nfl5 cl_X0_25 isX5 inX5 dX0_init_27 (fun h7 m7 => ?_)
  refine J.dup dX0_init_30 rfl ?_
  refine J.less (bc' := 22 + 6) (bs' := 1158 + (290)) ?_ (by omega) (by omega)
  refine J.callI (M' := mX5_init) (index := 27) (bc := 22) (bs := 1158) (bc' := 6) (bs' := 290) (st := [.ref (eB E + (b + 16)), .ref (eB E + (b + 0))]) [] ml_X0_27 cv_X5_init dX0_init_31 rfl rfl (Nat.le_of_ble_eq_true rfl) ?_
  refine k_X5_init (d := d) (b := b + 16)  (show h7.2.2 = (b + 16) + 1 from m7.1) (m7.z 16 (by decide)) (m7.kd 16 rfl) (fun h8 eh8 => ?_)
  have m8 := MK.app (l := 16) (ks2 := [(0, 0), (1, 0), (14, 8), (14, 8), (14, 8), (14, 8), (7, 0), (14, 20), (14, 20), (14, 20), (14, 20), (14, 20), (14, 20), (16, 20), (16, 20), (16, 20), (5, 0), (14, 60), (14, 60), (14, 60), (14, 60), (14, 25), (14, 25)]) (rs2 := [(16, 6, 22), (16, 5, 21), (16, 4, 20), (16, 3, 19), (16, 2, 18), (16, 1, 17), (0, 2, 6), (6, 9, 15), (6, 8, 14), (6, 7, 13), (6, 6, 12), (6, 5, 11), (6, 4, 10), (6, 3, 9), (6, 2, 8), (6, 1, 7), (0, 1, 1), (1, 4, 5), (1, 3, 4), (1, 2, 3), (1, 1, 2)]) m7 eh8 rfl (by decide) rfl rfl (fun q hq => by cases hq)
  refine mk_put (j := 0) (t := 16) m8 ff_X0_28 rfl rfl dX0_init_34 rfl (by decide) (by decide) (fun h9 m9 => ?_)
  refine J.aload_n dX0_init_37 rfl rfl ?_
  refine mk_new m9 (bc := 21) (bs := 1146) (l := 23) (ks' := [(0, 0), (1, 0), (14, 8), (14, 8), (14, 8), (14, 8), (7, 0), (14, 20), (14, 20), (14, 20), (14, 20), (14, 20), (14, 20), (16, 20), (16, 20), (16, 20), (5, 0), (14, 60), (14, 60), (14, 60), (14, 60), (14, 25), (14, 25), (4, 0)]) rfl rfl cls4 nfl4 cl_X0_32 isX4 inX4 dX0_init_38 (fun h10 m10 => ?_)
  refine J.dup dX0_init_41 rfl ?_
  refine J.less (bc' := 10 + 11) (bs' := 516 + (630)) ?_ (by omega) (by omega)
  refine J.callIN (M' := mX4_init) (index := 34) (bc := 10) (bs := 516) (bc' := 11) (bs' := 630) (st := [.ref (eB E + (b + 23)), .ref (eB E + (b + 0))]) [] nk_X0_34 cv_X4_init dX0_init_42 rfl rfl (Nat.le_of_ble_eq_true rfl) ?_
  refine k_X4_init (d := d + 1) (b := b + 23)  (show h10.2.2 = (b + 23) + 1 from m10.1) (m10.z 23 (by decide)) (m10.kd 23 rfl) (fun h11 eh11 => ?_)
  have m11 := MK.app (l := 23) (ks2 := [(0, 0), (1, 0), (14, 8), (14, 8), (14, 8), (14, 8), (7, 0), (14, 20), (14, 20), (14, 20), (14, 20), (14, 20), (14, 20), (16, 20), (16, 20), (16, 20), (5, 0), (14, 60), (14, 60), (14, 60), (14, 60), (14, 25), (14, 25), (4, 0), (14, 30), (14, 30), (14, 30), (14, 30), (14, 30), (14, 30), (14, 30), (14, 30), (14, 330), (18, 30), (18, 30)]) (rs2 := [(23, 11, 34), (23, 10, 33), (23, 9, 32), (23, 8, 31), (23, 7, 30), (23, 6, 29), (23, 5, 28), (23, 4, 27), (23, 3, 26), (23, 2, 25), (23, 1, 24), (0, 3, 16), (16, 6, 22), (16, 5, 21), (16, 4, 20), (16, 3, 19), (16, 2, 18), (16, 1, 17), (0, 2, 6), (6, 9, 15), (6, 8, 14), (6, 7, 13), (6, 6, 12), (6, 5, 11), (6, 4, 10), (6, 3, 9), (6, 2, 8), (6, 1, 7), (0, 1, 1), (1, 4, 5), (1, 3, 4), (1, 2, 3), (1, 1, 2)]) m10 eh11 rfl (by decide) rfl rfl (fun q hq => by cases hq)
  refine mk_put (j := 0) (t := 23) m11 ff_X0_35 rfl rfl dX0_init_45 rfl (by decide) (by decide) (fun h12 m12 => ?_)
  refine J.aload_n dX0_init_48 rfl rfl ?_
  refine J.bipush (v := 7) dX0_init_49 (by decide) ?_
  refine mk_T m12 (bc := 9) (bs := 509) (l := 35) (ks' := [(0, 0), (1, 0), (14, 8), (14, 8), (14, 8), (14, 8), (7, 0), (14, 20), (14, 20), (14, 20), (14, 20), (14, 20), (14, 20), (16, 20), (16, 20), (16, 20), (5, 0), (14, 60), (14, 60), (14, 60), (14, 60), (14, 25), (14, 25), (4, 0), (14, 30), (14, 30), (14, 30), (14, 30), (14, 30), (14, 30), (14, 30), (14, 30), (14, 330), (18, 30), (18, 30), (18, 7)]) rfl rfl cl_X0_39 (by decide) (by decide) (by decide) dX0_init_51 (fun h13 m13 => ?_)
  refine mk_put (j := 0) (t := 35) m13 ff_X0_41 rfl rfl dX0_init_54 rfl (by decide) (by decide) (fun h14 m14 => ?_)
  refine J.aload_n dX0_init_57 rfl rfl ?_
  refine J.sipush (v := 500) dX0_init_58 (by decide) ?_
  refine mk_B m14 (bc := 8) (bs := 9) (l := 36) (ks' := [(0, 0), (1, 0), (14, 8), (14, 8), (14, 8), (14, 8), (7, 0), (14, 20), (14, 20), (14, 20), (14, 20), (14, 20), (14, 20), (16, 20), (16, 20), (16, 20), (5, 0), (14, 60), (14, 60), (14, 60), (14, 60), (14, 25), (14, 25), (4, 0), (14, 30), (14, 30), (14, 30), (14, 30), (14, 30), (14, 30), (14, 30), (14, 30), (14, 330), (18, 30), (18, 30), (18, 7), (13, 500)]) rfl rfl (by decide) (by decide) (by decide) dX0_init_61 (fun h15 m15 => ?_)
  refine mk_put (j := 0) (t := 36) m15 ff_X0_45 rfl rfl dX0_init_63 rfl (by decide) (by decide) (fun h16 m16 => ?_)
  refine J.aload_n dX0_init_66 rfl rfl ?_
  refine J.iconst (v := (-1)) dX0_init_67 (by decide) ?_
  refine J.putI fw_X0_49 rfl dX0_init_68 (m16.lt 0 rfl) (m16.kd 0 rfl) ?_
  refine mk_new m16 (bc := 7) (bs := 1) (l := 37) (ks' := [(0, 0), (1, 0), (14, 8), (14, 8), (14, 8), (14, 8), (7, 0), (14, 20), (14, 20), (14, 20), (14, 20), (14, 20), (14, 20), (16, 20), (16, 20), (16, 20), (5, 0), (14, 60), (14, 60), (14, 60), (14, 60), (14, 25), (14, 25), (4, 0), (14, 30), (14, 30), (14, 30), (14, 30), (14, 30), (14, 30), (14, 30), (14, 30), (14, 330), (18, 30), (18, 30), (18, 7), (13, 500), (10, 0)]) rfl rfl cls10 nfl10 cl_X0_39 isX10 inX10 dX0_init_71 (fun h17 m17 => ?_)
  refine J.dup dX0_init_74 rfl ?_
  refine J.iconst (v := 0) dX0_init_75 (by decide) ?_
  refine J.iconst (v := 0) dX0_init_76 (by decide) ?_
  refine J.less (bc' := 0 + 7) (bs' := 0 + (0 + 0 + 0 + 0 + 0 + (0 + 1) + 0 + 0)) ?_ (by omega) (by omega)
  refine J.callI (M' := mX10_init) (index := 53) (bc := 0) (bs := 0) (bc' := 7) (bs' := 0 + 0 + 0 + 0 + 0 + (0 + 1) + 0 + 0) (st := [.ref (eB E + (b + 37))]) [.int 0, .int 0] ml_X0_53 cv_X10_init dX0_init_77 rfl rfl (Nat.le_of_ble_eq_true rfl) ?_
  refine k_X10_init (d := d + 1) (b := b + 37) (nl := 0) (nt := 0) rfl rfl (by decide) (by decide) (show h17.2.2 = (b + 37) + 1 from m17.1) (m17.z 37 (by decide)) (m17.kd 37 rfl) (fun h18 eh18 => ?_)
  have m18 := MK.app (l := 37) (ks2 := [(0, 0), (1, 0), (14, 8), (14, 8), (14, 8), (14, 8), (7, 0), (14, 20), (14, 20), (14, 20), (14, 20), (14, 20), (14, 20), (16, 20), (16, 20), (16, 20), (5, 0), (14, 60), (14, 60), (14, 60), (14, 60), (14, 25), (14, 25), (4, 0), (14, 30), (14, 30), (14, 30), (14, 30), (14, 30), (14, 30), (14, 30), (14, 30), (14, 330), (18, 30), (18, 30), (18, 7), (13, 500), (10, 0), (14, 0), (14, 0), (14, 1), (14, 0), (14, 0), (14, 0), (16, 0)]) (rs2 := [(37, 7, 44), (37, 6, 43), (37, 5, 42), (37, 4, 41), (37, 3, 40), (37, 2, 39), (37, 1, 38), (0, 6, 36), (0, 5, 35), (0, 4, 23), (23, 11, 34), (23, 10, 33), (23, 9, 32), (23, 8, 31), (23, 7, 30), (23, 6, 29), (23, 5, 28), (23, 4, 27), (23, 3, 26), (23, 2, 25), (23, 1, 24), (0, 3, 16), (16, 6, 22), (16, 5, 21), (16, 4, 20), (16, 3, 19), (16, 2, 18), (16, 1, 17), (0, 2, 6), (6, 9, 15), (6, 8, 14), (6, 7, 13), (6, 6, 12), (6, 5, 11), (6, 4, 10), (6, 3, 9), (6, 2, 8), (6, 1, 7), (0, 1, 1), (1, 4, 5), (1, 3, 4), (1, 2, 3), (1, 1, 2)]) m17 eh18 rfl (by decide) rfl rfl (fun q hq => by cases hq)
  refine J.astore_n (vs' := [some (.ref (eB E + (b + 0))), some (.ref (eB E + (b + 37))), none]) dX0_init_80 rfl (by decide) rfl ?_
  refine J.iconst (v := 0) dX0_init_81 (by decide) ?_
  refine J.istore_n (vs' := [some (.ref (eB E + (b + 0))), some (.ref (eB E + (b + 37))), some (.int 0)]) dX0_init_82 rfl (by decide) rfl ?_
  refine J.iload_n dX0_init_83 rfl rfl ?_
  refine J.bipush (v := 7) dX0_init_84 (by decide) ?_
  refine J.ic_ge 102 dX0_init_86 (by decide) (fun hc => absurd hc (by decide)) (fun _ => ?_)
  refine J.aload_n dX0_init_89 rfl rfl ?_
  refine J.getR (r := b + 35) fl_X0_41 rfl dX0_init_90 (m18.lt 0 rfl) (m18.kd 0 rfl) (m18.rf (0, 5, 35) (by decide)) ?_
  refine J.iload_n dX0_init_93 rfl rfl ?_
  refine J.aload_n dX0_init_94 rfl rfl ?_
  refine J.aastT dX0_init_95 (m18.lt 35 rfl) (m18.kd 35 rfl) (by unfold vp_in; decide) (m18.lt 37 rfl) (m18.kd 37 rfl) ?_
  rw [show (0 : Int32).toNatClampNeg = 0 from by decide]
  have m19 := m18.put (j := 35) (i := 0) (t := 37) (by decide) (by decide)
  generalize uRh h18 (b + 35) 0 (some (b + 37)) = h19 at m19 ⊢
  refine J.iinc (v := 1) (vs' := [some (.ref (eB E + (b + 0))), some (.ref (eB E + (b + 37))), some (.int 1)]) dX0_init_96 rfl (by decide) (by decide) rfl ?_
  refine J.goto 83 dX0_init_99 (by decide) ?_
  refine J.iload_n dX0_init_83 rfl rfl ?_
  refine J.bipush (v := 7) dX0_init_84 (by decide) ?_
  refine J.ic_ge 102 dX0_init_86 (by decide) (fun hc => absurd hc (by decide)) (fun _ => ?_)
  refine J.aload_n dX0_init_89 rfl rfl ?_
  refine J.getR (r := b + 35) fl_X0_41 rfl dX0_init_90 (m19.lt 0 rfl) (m19.kd 0 rfl) (m19.rf (0, 5, 35) (by decide)) ?_
  refine J.iload_n dX0_init_93 rfl rfl ?_
  refine J.aload_n dX0_init_94 rfl rfl ?_
  refine J.aastT dX0_init_95 (m19.lt 35 rfl) (m19.kd 35 rfl) (by unfold vp_in; decide) (m19.lt 37 rfl) (m19.kd 37 rfl) ?_
  rw [show (1 : Int32).toNatClampNeg = 1 from by decide]
  have m20 := m19.put (j := 35) (i := 1) (t := 37) (by decide) (by decide)
  generalize uRh h19 (b + 35) 1 (some (b + 37)) = h20 at m20 ⊢
  refine J.iinc (v := 2) (vs' := [some (.ref (eB E + (b + 0))), some (.ref (eB E + (b + 37))), some (.int 2)]) dX0_init_96 rfl (by decide) (by decide) rfl ?_
  refine J.goto 83 dX0_init_99 (by decide) ?_
  refine J.iload_n dX0_init_83 rfl rfl ?_
  refine J.bipush (v := 7) dX0_init_84 (by decide) ?_
  refine J.ic_ge 102 dX0_init_86 (by decide) (fun hc => absurd hc (by decide)) (fun _ => ?_)
  refine J.aload_n dX0_init_89 rfl rfl ?_
  refine J.getR (r := b + 35) fl_X0_41 rfl dX0_init_90 (m20.lt 0 rfl) (m20.kd 0 rfl) (m20.rf (0, 5, 35) (by decide)) ?_
  refine J.iload_n dX0_init_93 rfl rfl ?_
  refine J.aload_n dX0_init_94 rfl rfl ?_
  refine J.aastT dX0_init_95 (m20.lt 35 rfl) (m20.kd 35 rfl) (by unfold vp_in; decide) (m20.lt 37 rfl) (m20.kd 37 rfl) ?_
  rw [show (2 : Int32).toNatClampNeg = 2 from by decide]
  have m21 := m20.put (j := 35) (i := 2) (t := 37) (by decide) (by decide)
  generalize uRh h20 (b + 35) 2 (some (b + 37)) = h21 at m21 ⊢
  refine J.iinc (v := 3) (vs' := [some (.ref (eB E + (b + 0))), some (.ref (eB E + (b + 37))), some (.int 3)]) dX0_init_96 rfl (by decide) (by decide) rfl ?_
  refine J.goto 83 dX0_init_99 (by decide) ?_
  refine J.iload_n dX0_init_83 rfl rfl ?_
  refine J.bipush (v := 7) dX0_init_84 (by decide) ?_
  refine J.ic_ge 102 dX0_init_86 (by decide) (fun hc => absurd hc (by decide)) (fun _ => ?_)
  refine J.aload_n dX0_init_89 rfl rfl ?_
  refine J.getR (r := b + 35) fl_X0_41 rfl dX0_init_90 (m21.lt 0 rfl) (m21.kd 0 rfl) (m21.rf (0, 5, 35) (by decide)) ?_
  refine J.iload_n dX0_init_93 rfl rfl ?_
  refine J.aload_n dX0_init_94 rfl rfl ?_
  refine J.aastT dX0_init_95 (m21.lt 35 rfl) (m21.kd 35 rfl) (by unfold vp_in; decide) (m21.lt 37 rfl) (m21.kd 37 rfl) ?_
  rw [show (3 : Int32).toNatClampNeg = 3 from by decide]
  have m22 := m21.put (j := 35) (i := 3) (t := 37) (by decide) (by decide)
  generalize uRh h21 (b + 35) 3 (some (b + 37)) = h22 at m22 ⊢
  refine J.iinc (v := 4) (vs' := [some (.ref (eB E + (b + 0))), some (.ref (eB E + (b + 37))), some (.int 4)]) dX0_init_96 rfl (by decide) (by decide) rfl ?_
  refine J.goto 83 dX0_init_99 (by decide) ?_
  refine J.iload_n dX0_init_83 rfl rfl ?_
  refine J.bipush (v := 7) dX0_init_84 (by decide) ?_
  refine J.ic_ge 102 dX0_init_86 (by decide) (fun hc => absurd hc (by decide)) (fun _ => ?_)
  refine J.aload_n dX0_init_89 rfl rfl ?_
  refine J.getR (r := b + 35) fl_X0_41 rfl dX0_init_90 (m22.lt 0 rfl) (m22.kd 0 rfl) (m22.rf (0, 5, 35) (by decide)) ?_
  refine J.iload_n dX0_init_93 rfl rfl ?_
  refine J.aload_n dX0_init_94 rfl rfl ?_
  refine J.aastT dX0_init_95 (m22.lt 35 rfl) (m22.kd 35 rfl) (by unfold vp_in; decide) (m22.lt 37 rfl) (m22.kd 37 rfl) ?_
  rw [show (4 : Int32).toNatClampNeg = 4 from by decide]
  have m23 := m22.put (j := 35) (i := 4) (t := 37) (by decide) (by decide)
  generalize uRh h22 (b + 35) 4 (some (b + 37)) = h23 at m23 ⊢
  refine J.iinc (v := 5) (vs' := [some (.ref (eB E + (b + 0))), some (.ref (eB E + (b + 37))), some (.int 5)]) dX0_init_96 rfl (by decide) (by decide) rfl ?_
  refine J.goto 83 dX0_init_99 (by decide) ?_
  refine J.iload_n dX0_init_83 rfl rfl ?_
  refine J.bipush (v := 7) dX0_init_84 (by decide) ?_
  refine J.ic_ge 102 dX0_init_86 (by decide) (fun hc => absurd hc (by decide)) (fun _ => ?_)
  refine J.aload_n dX0_init_89 rfl rfl ?_
  refine J.getR (r := b + 35) fl_X0_41 rfl dX0_init_90 (m23.lt 0 rfl) (m23.kd 0 rfl) (m23.rf (0, 5, 35) (by decide)) ?_
  refine J.iload_n dX0_init_93 rfl rfl ?_
  refine J.aload_n dX0_init_94 rfl rfl ?_
  refine J.aastT dX0_init_95 (m23.lt 35 rfl) (m23.kd 35 rfl) (by unfold vp_in; decide) (m23.lt 37 rfl) (m23.kd 37 rfl) ?_
  rw [show (5 : Int32).toNatClampNeg = 5 from by decide]
  have m24 := m23.put (j := 35) (i := 5) (t := 37) (by decide) (by decide)
  generalize uRh h23 (b + 35) 5 (some (b + 37)) = h24 at m24 ⊢
  refine J.iinc (v := 6) (vs' := [some (.ref (eB E + (b + 0))), some (.ref (eB E + (b + 37))), some (.int 6)]) dX0_init_96 rfl (by decide) (by decide) rfl ?_
  refine J.goto 83 dX0_init_99 (by decide) ?_
  refine J.iload_n dX0_init_83 rfl rfl ?_
  refine J.bipush (v := 7) dX0_init_84 (by decide) ?_
  refine J.ic_ge 102 dX0_init_86 (by decide) (fun hc => absurd hc (by decide)) (fun _ => ?_)
  refine J.aload_n dX0_init_89 rfl rfl ?_
  refine J.getR (r := b + 35) fl_X0_41 rfl dX0_init_90 (m24.lt 0 rfl) (m24.kd 0 rfl) (m24.rf (0, 5, 35) (by decide)) ?_
  refine J.iload_n dX0_init_93 rfl rfl ?_
  refine J.aload_n dX0_init_94 rfl rfl ?_
  refine J.aastT dX0_init_95 (m24.lt 35 rfl) (m24.kd 35 rfl) (by unfold vp_in; decide) (m24.lt 37 rfl) (m24.kd 37 rfl) ?_
  rw [show (6 : Int32).toNatClampNeg = 6 from by decide]
  have m25 := m24.put (j := 35) (i := 6) (t := 37) (by decide) (by decide)
  generalize uRh h24 (b + 35) 6 (some (b + 37)) = h25 at m25 ⊢
  refine J.iinc (v := 7) (vs' := [some (.ref (eB E + (b + 0))), some (.ref (eB E + (b + 37))), some (.int 7)]) dX0_init_96 rfl (by decide) (by decide) rfl ?_
  refine J.goto 83 dX0_init_99 (by decide) ?_
  refine J.iload_n dX0_init_83 rfl rfl ?_
  refine J.bipush (v := 7) dX0_init_84 (by decide) ?_
  refine J.ic_ge 102 dX0_init_86 (by decide) (fun _ => ?_) (fun hc => absurd hc (by decide))
  exact J.retv dX0_init_102 rfl (hQ h25 m25)
def f_X8 (b : Nat) (I : mI) : mI := (f_X10 (b + 1) 16 I)
set_option maxRecDepth 100000 in
set_option maxHeartbeats 4000000 in
theorem k_X8_init {E : Envt} {d : Nat} {Q : Pst} {h : mS} {I : mI} {L : mL} {b : Nat} {p1 : Nat} (hb : h.2.2 = b + 1) (hz : ∀ a i, b ≤ a → h.2.1 a i = none) (hk : h.1 b = (8, 0)) (hQ : ∀ h', MK h h' b [(8, 0), (10, 0), (14, 16), (14, 16), (14, 17), (14, 64), (14, 64), (14, 64), (16, 64)] [(0, 11, 1), (1, 7, 8), (1, 6, 7), (1, 5, 6), (1, 4, 5), (1, 3, 4), (1, 2, 3), (1, 1, 2)] [(0, 0, p1)] → Q none h' (f_X8 b I) L) : CT E mX8_init (d + 2) 8 (313) [.ref (eB E + b), .ref (eB E + p1)] h I L Q := by
  have m0 : MK h h b [(8, 0)] [] [] := MK.one hb hz hk
  refine CT.of (by decide) [some (.ref (eB E + (b + 0))), some (.ref (eB E + p1))] rfl (Nat.le_of_ble_eq_true rfl) ?_
  refine J.aload_n dX8_init_0 rfl rfl ?_
  refine J.objInit ml_X8_3 oi1 oi2 dX8_init_1 (Nat.le_of_ble_eq_true rfl) ?_
  refine J.aload_n dX8_init_4 rfl rfl ?_
  refine mk_new m0 (bc := 7) (bs := 305) (l := 1) (ks' := [(8, 0), (10, 0)]) rfl rfl cls10 nfl10 cl_X8_9 isX10 inX10 dX8_init_5 (fun h1 m1 => ?_)
  refine J.dup dX8_init_8 rfl ?_
  refine J.bipush (v := 16) dX8_init_9 (by decide) ?_
  refine J.bipush (v := 64) dX8_init_11 (by decide) ?_
  refine J.less (bc' := 0 + 7) (bs' := 0 + (0 + 64 + 64 + 64 + 64 + (16 + 1) + 16 + 16)) ?_ (by omega) (by omega)
  refine J.callI (M' := mX10_init) (index := 11) (bc := 0) (bs := 0) (bc' := 7) (bs' := 0 + 64 + 64 + 64 + 64 + (16 + 1) + 16 + 16) (st := [.ref (eB E + (b + 1)), .ref (eB E + (b + 0))]) [.int 16, .int 64] ml_X8_11 cv_X10_init dX8_init_13 rfl rfl (Nat.le_of_ble_eq_true rfl) ?_
  refine k_X10_init (d := d) (b := b + 1) (nl := 16) (nt := 64) rfl rfl (by decide) (by decide) (show h1.2.2 = (b + 1) + 1 from m1.1) (m1.z 1 (by decide)) (m1.kd 1 rfl) (fun h2 eh2 => ?_)
  have m2 := MK.app (l := 1) (ks2 := [(8, 0), (10, 0), (14, 16), (14, 16), (14, 17), (14, 64), (14, 64), (14, 64), (16, 64)]) (rs2 := [(1, 7, 8), (1, 6, 7), (1, 5, 6), (1, 4, 5), (1, 3, 4), (1, 2, 3), (1, 1, 2)]) m1 eh2 rfl (by decide) rfl rfl (fun q hq => by cases hq)
  refine mk_put (j := 0) (t := 1) m2 ff_X8_14 rfl rfl dX8_init_16 rfl (by decide) (by decide) (fun h3 m3 => ?_)
  refine J.aload_n dX8_init_19 rfl rfl ?_
  refine J.aload_n dX8_init_20 rfl rfl ?_
  refine mk_puta (j := 0) (t := p1) m3 ff_X8_20 rfl rfl dX8_init_21 rfl rfl rfl (fun h4 m4 => ?_)
  exact J.retv dX8_init_24 rfl (hQ h4 m4)
def f_X3 (b : Nat) (I : mI) : mI := (fiI I (b + 1) 5 (-1))
set_option maxRecDepth 100000 in
set_option maxHeartbeats 4000000 in
theorem k_X3_init {E : Envt} {d : Nat} {Q : Pst} {h : mS} {I : mI} {L : mL} {b : Nat} {p1 : Nat} (hb : h.2.2 = b + 1) (hz : ∀ a i, b ≤ a → h.2.1 a i = none) (hk : h.1 b = (3, 0)) (hQ : ∀ h', MK h h' b [(3, 0), (14, 5), (14, 200), (14, 20), (14, 20), (14, 20), (14, 20)] [(0, 6, 6), (0, 5, 5), (0, 4, 4), (0, 3, 3), (0, 2, 2), (0, 1, 1)] [(0, 0, p1)] → Q none h' (f_X3 b I) L) : CT E mX3_init (d + 1) 6 (285) [.ref (eB E + b), .ref (eB E + p1)] h I L Q := by
  have m0 : MK h h b [(3, 0)] [] [] := MK.one hb hz hk
  refine CT.of (by decide) [some (.ref (eB E + (b + 0))), some (.ref (eB E + p1))] rfl (Nat.le_of_ble_eq_true rfl) ?_
  refine J.aload_n dX3_init_0 rfl rfl ?_
  refine J.objInit ml_X3_5 oi1 oi2 dX3_init_1 (Nat.le_of_ble_eq_true rfl) ?_
  refine J.aload_n dX3_init_4 rfl rfl ?_
  refine J.iconst (v := 5) dX3_init_5 (by decide) ?_
  refine mk_I m0 (bc := 5) (bs := 280) (l := 1) (ks' := [(3, 0), (14, 5)]) rfl rfl (by decide) (by decide) (by decide) dX3_init_6 (fun h1 m1 => ?_)
  refine mk_put (j := 0) (t := 1) m1 ff_X3_11 rfl rfl dX3_init_8 rfl (by decide) (by decide) (fun h2 m2 => ?_)
  refine J.aload_n dX3_init_11 rfl rfl ?_
  refine J.sipush (v := 200) dX3_init_12 (by decide) ?_
  refine mk_I m2 (bc := 4) (bs := 80) (l := 2) (ks' := [(3, 0), (14, 5), (14, 200)]) rfl rfl (by decide) (by decide) (by decide) dX3_init_15 (fun h3 m3 => ?_)
  refine mk_put (j := 0) (t := 2) m3 ff_X3_15 rfl rfl dX3_init_17 rfl (by decide) (by decide) (fun h4 m4 => ?_)
  refine J.aload_n dX3_init_20 rfl rfl ?_
  refine J.bipush (v := 20) dX3_init_21 (by decide) ?_
  refine mk_I m4 (bc := 3) (bs := 60) (l := 3) (ks' := [(3, 0), (14, 5), (14, 200), (14, 20)]) rfl rfl (by decide) (by decide) (by decide) dX3_init_23 (fun h5 m5 => ?_)
  refine mk_put (j := 0) (t := 3) m5 ff_X3_18 rfl rfl dX3_init_25 rfl (by decide) (by decide) (fun h6 m6 => ?_)
  refine J.aload_n dX3_init_28 rfl rfl ?_
  refine J.bipush (v := 20) dX3_init_29 (by decide) ?_
  refine mk_I m6 (bc := 2) (bs := 40) (l := 4) (ks' := [(3, 0), (14, 5), (14, 200), (14, 20), (14, 20)]) rfl rfl (by decide) (by decide) (by decide) dX3_init_31 (fun h7 m7 => ?_)
  refine mk_put (j := 0) (t := 4) m7 ff_X3_21 rfl rfl dX3_init_33 rfl (by decide) (by decide) (fun h8 m8 => ?_)
  refine J.aload_n dX3_init_36 rfl rfl ?_
  refine J.bipush (v := 20) dX3_init_37 (by decide) ?_
  refine mk_I m8 (bc := 1) (bs := 20) (l := 5) (ks' := [(3, 0), (14, 5), (14, 200), (14, 20), (14, 20), (14, 20)]) rfl rfl (by decide) (by decide) (by decide) dX3_init_39 (fun h9 m9 => ?_)
  refine mk_put (j := 0) (t := 5) m9 ff_X3_24 rfl rfl dX3_init_41 rfl (by decide) (by decide) (fun h10 m10 => ?_)
  refine J.aload_n dX3_init_44 rfl rfl ?_
  refine J.bipush (v := 20) dX3_init_45 (by decide) ?_
  refine mk_I m10 (bc := 0) (bs := 0) (l := 6) (ks' := [(3, 0), (14, 5), (14, 200), (14, 20), (14, 20), (14, 20), (14, 20)]) rfl rfl (by decide) (by decide) (by decide) dX3_init_47 (fun h11 m11 => ?_)
  refine mk_put (j := 0) (t := 6) m11 ff_X3_27 rfl rfl dX3_init_49 rfl (by decide) (by decide) (fun h12 m12 => ?_)
  refine J.aload_n dX3_init_52 rfl rfl ?_
  refine J.aload_n dX3_init_53 rfl rfl ?_
  refine mk_puta (j := 0) (t := p1) m12 ff_X3_30 rfl rfl dX3_init_54 rfl rfl rfl (fun h13 m13 => ?_)
  refine J.aload_n dX3_init_57 rfl rfl ?_
  refine J.getR (r := b + 1) fl_X3_11 rfl dX3_init_58 (m13.lt 0 rfl) (m13.kd 0 rfl) (m13.rf (0, 1, 1) (by decide)) ?_
  refine J.iconst (v := (-1)) dX3_init_61 (by decide) ?_
  refine J.callS (M' := mJ7_fill_53178) (index := 34) (bc := 0) (bs := 0) (bc' := 0) (bs' := 0) (st := []) [.ref (eB E + (b + 1)), .int (-1)] ml_X3_34 cv_J7_fill_53178 dX3_init_62 rfl rfl (Nat.le_of_ble_eq_true rfl) ?_
  refine n_fill (d := d) (m13.lt 1 rfl) (m13.kd 1 rfl) (by decide) ?_
  exact J.retv dX3_init_65 rfl (hQ h13 m13)
def f_X2 (b : Nat) (I : mI) : mI := I
set_option maxRecDepth 100000 in
set_option maxHeartbeats 4000000 in
theorem k_X2_init {E : Envt} {d : Nat} {Q : Pst} {h : mS} {I : mI} {L : mL} {b : Nat} {p1 : Nat} {p2 : Nat} (hb : h.2.2 = b + 1) (hz : ∀ a i, b ≤ a → h.2.1 a i = none) (hk : h.1 b = (2, 0)) (hQ : ∀ h', MK h h' b [(2, 0), (14, 11)] [(0, 4, 1)] [(0, 1, p2), (0, 0, p1)] → Q none h' (f_X2 b I) L) : CT E mX2_init (d + 1) 1 (11) [.ref (eB E + b), .ref (eB E + p1), .ref (eB E + p2)] h I L Q := by
  have m0 : MK h h b [(2, 0)] [] [] := MK.one hb hz hk
  refine CT.of (by decide) [some (.ref (eB E + (b + 0))), some (.ref (eB E + p1)), some (.ref (eB E + p2))] rfl (Nat.le_of_ble_eq_true rfl) ?_
  refine J.aload_n dX2_init_0 rfl rfl ?_
  refine J.objInit ml_X2_3 oi1 oi2 dX2_init_1 (Nat.le_of_ble_eq_true rfl) ?_
  refine J.aload_n dX2_init_4 rfl rfl ?_
  refine J.bipush (v := 11) dX2_init_5 (by decide) ?_
  refine mk_I m0 (bc := 0) (bs := 0) (l := 1) (ks' := [(2, 0), (14, 11)]) rfl rfl (by decide) (by decide) (by decide) dX2_init_7 (fun h1 m1 => ?_)
  refine mk_put (j := 0) (t := 1) m1 ff_X2_9 rfl rfl dX2_init_9 rfl (by decide) (by decide) (fun h2 m2 => ?_)
  refine J.aload_n dX2_init_12 rfl rfl ?_
  refine J.aload_n dX2_init_13 rfl rfl ?_
  refine mk_puta (j := 0) (t := p1) m2 ff_X2_15 rfl rfl dX2_init_14 rfl rfl rfl (fun h3 m3 => ?_)
  refine J.aload_n dX2_init_17 rfl rfl ?_
  refine J.aload_n dX2_init_18 rfl rfl ?_
  refine mk_puta (j := 0) (t := p2) m3 ff_X2_19 rfl rfl dX2_init_19 rfl rfl rfl (fun h4 m4 => ?_)
  exact J.retv dX2_init_22 rfl (hQ h4 m4)
def f_X6 (b : Nat) (I : mI) : mI := I
set_option maxRecDepth 100000 in
set_option maxHeartbeats 4000000 in
theorem k_X6_init {E : Envt} {d : Nat} {Q : Pst} {h : mS} {I : mI} {L : mL} {b : Nat} {p1 : Nat} {p2 : Nat} (hb : h.2.2 = b + 1) (hz : ∀ a i, b ≤ a → h.2.1 a i = none) (hk : h.1 b = (6, 0)) (hQ : ∀ h', MK h h' b [(6, 0), (14, 8), (14, 8), (16, 64), (14, 64), (16, 64), (14, 64), (14, 64), (14, 64), (16, 64), (14, 2304), (14, 8)] [(0, 14, 11), (0, 13, 10), (0, 12, 9), (0, 11, 8), (0, 10, 7), (0, 9, 6), (0, 8, 5), (0, 7, 4), (0, 6, 3), (0, 3, 2), (0, 2, 1)] [(0, 1, p2), (0, 0, p1)] → Q none h' (f_X6 b I) L) : CT E mX6_init (d + 1) 11 (2776) [.ref (eB E + b), .ref (eB E + p1), .ref (eB E + p2)] h I L Q := by
  have m0 : MK h h b [(6, 0)] [] [] := MK.one hb hz hk
  refine CT.of (by decide) [some (.ref (eB E + (b + 0))), some (.ref (eB E + p1)), some (.ref (eB E + p2))] rfl (Nat.le_of_ble_eq_true rfl) ?_
  refine J.aload_n dX6_init_0 rfl rfl ?_
  refine J.objInit ml_X6_3 oi1 oi2 dX6_init_1 (Nat.le_of_ble_eq_true rfl) ?_
  refine J.aload_n dX6_init_4 rfl rfl ?_
  refine J.bipush (v := 8) dX6_init_5 (by decide) ?_
  refine mk_I m0 (bc := 10) (bs := 2768) (l := 1) (ks' := [(6, 0), (14, 8)]) rfl rfl (by decide) (by decide) (by decide) dX6_init_7 (fun h1 m1 => ?_)
  refine mk_put (j := 0) (t := 1) m1 ff_X6_9 rfl rfl dX6_init_9 rfl (by decide) (by decide) (fun h2 m2 => ?_)
  refine J.aload_n dX6_init_12 rfl rfl ?_
  refine J.bipush (v := 8) dX6_init_13 (by decide) ?_
  refine mk_I m2 (bc := 9) (bs := 2760) (l := 2) (ks' := [(6, 0), (14, 8), (14, 8)]) rfl rfl (by decide) (by decide) (by decide) dX6_init_15 (fun h3 m3 => ?_)
  refine mk_put (j := 0) (t := 2) m3 ff_X6_15 rfl rfl dX6_init_17 rfl (by decide) (by decide) (fun h4 m4 => ?_)
  refine J.aload_n dX6_init_20 rfl rfl ?_
  refine J.bipush (v := 64) dX6_init_21 (by decide) ?_
  refine mk_Z m4 (bc := 8) (bs := 2696) (l := 3) (ks' := [(6, 0), (14, 8), (14, 8), (16, 64)]) rfl rfl (by decide) (by decide) (by decide) dX6_init_23 (fun h5 m5 => ?_)
  refine mk_put (j := 0) (t := 3) m5 ff_X6_18 rfl rfl dX6_init_25 rfl (by decide) (by decide) (fun h6 m6 => ?_)
  refine J.aload_n dX6_init_28 rfl rfl ?_
  refine J.bipush (v := 64) dX6_init_29 (by decide) ?_
  refine mk_I m6 (bc := 7) (bs := 2632) (l := 4) (ks' := [(6, 0), (14, 8), (14, 8), (16, 64), (14, 64)]) rfl rfl (by decide) (by decide) (by decide) dX6_init_31 (fun h7 m7 => ?_)
  refine mk_put (j := 0) (t := 4) m7 ff_X6_22 rfl rfl dX6_init_33 rfl (by decide) (by decide) (fun h8 m8 => ?_)
  refine J.aload_n dX6_init_36 rfl rfl ?_
  refine J.bipush (v := 64) dX6_init_37 (by decide) ?_
  refine mk_Z m8 (bc := 6) (bs := 2568) (l := 5) (ks' := [(6, 0), (14, 8), (14, 8), (16, 64), (14, 64), (16, 64)]) rfl rfl (by decide) (by decide) (by decide) dX6_init_39 (fun h9 m9 => ?_)
  refine mk_put (j := 0) (t := 5) m9 ff_X6_25 rfl rfl dX6_init_41 rfl (by decide) (by decide) (fun h10 m10 => ?_)
  refine J.aload_n dX6_init_44 rfl rfl ?_
  refine J.bipush (v := 64) dX6_init_45 (by decide) ?_
  refine mk_I m10 (bc := 5) (bs := 2504) (l := 6) (ks' := [(6, 0), (14, 8), (14, 8), (16, 64), (14, 64), (16, 64), (14, 64)]) rfl rfl (by decide) (by decide) (by decide) dX6_init_47 (fun h11 m11 => ?_)
  refine mk_put (j := 0) (t := 6) m11 ff_X6_28 rfl rfl dX6_init_49 rfl (by decide) (by decide) (fun h12 m12 => ?_)
  refine J.aload_n dX6_init_52 rfl rfl ?_
  refine J.bipush (v := 64) dX6_init_53 (by decide) ?_
  refine mk_I m12 (bc := 4) (bs := 2440) (l := 7) (ks' := [(6, 0), (14, 8), (14, 8), (16, 64), (14, 64), (16, 64), (14, 64), (14, 64)]) rfl rfl (by decide) (by decide) (by decide) dX6_init_55 (fun h13 m13 => ?_)
  refine mk_put (j := 0) (t := 7) m13 ff_X6_31 rfl rfl dX6_init_57 rfl (by decide) (by decide) (fun h14 m14 => ?_)
  refine J.aload_n dX6_init_60 rfl rfl ?_
  refine J.bipush (v := 64) dX6_init_61 (by decide) ?_
  refine mk_I m14 (bc := 3) (bs := 2376) (l := 8) (ks' := [(6, 0), (14, 8), (14, 8), (16, 64), (14, 64), (16, 64), (14, 64), (14, 64), (14, 64)]) rfl rfl (by decide) (by decide) (by decide) dX6_init_63 (fun h15 m15 => ?_)
  refine mk_put (j := 0) (t := 8) m15 ff_X6_34 rfl rfl dX6_init_65 rfl (by decide) (by decide) (fun h16 m16 => ?_)
  refine J.aload_n dX6_init_68 rfl rfl ?_
  refine J.bipush (v := 64) dX6_init_69 (by decide) ?_
  refine mk_Z m16 (bc := 2) (bs := 2312) (l := 9) (ks' := [(6, 0), (14, 8), (14, 8), (16, 64), (14, 64), (16, 64), (14, 64), (14, 64), (14, 64), (16, 64)]) rfl rfl (by decide) (by decide) (by decide) dX6_init_71 (fun h17 m17 => ?_)
  refine mk_put (j := 0) (t := 9) m17 ff_X6_37 rfl rfl dX6_init_73 rfl (by decide) (by decide) (fun h18 m18 => ?_)
  refine J.aload_n dX6_init_76 rfl rfl ?_
  refine J.sipush (v := 2304) dX6_init_77 (by decide) ?_
  refine mk_I m18 (bc := 1) (bs := 8) (l := 10) (ks' := [(6, 0), (14, 8), (14, 8), (16, 64), (14, 64), (16, 64), (14, 64), (14, 64), (14, 64), (16, 64), (14, 2304)]) rfl rfl (by decide) (by decide) (by decide) dX6_init_80 (fun h19 m19 => ?_)
  refine mk_put (j := 0) (t := 10) m19 ff_X6_40 rfl rfl dX6_init_82 rfl (by decide) (by decide) (fun h20 m20 => ?_)
  refine J.aload_n dX6_init_85 rfl rfl ?_
  refine J.bipush (v := 8) dX6_init_86 (by decide) ?_
  refine mk_I m20 (bc := 0) (bs := 0) (l := 11) (ks' := [(6, 0), (14, 8), (14, 8), (16, 64), (14, 64), (16, 64), (14, 64), (14, 64), (14, 64), (16, 64), (14, 2304), (14, 8)]) rfl rfl (by decide) (by decide) (by decide) dX6_init_88 (fun h21 m21 => ?_)
  refine mk_put (j := 0) (t := 11) m21 ff_X6_43 rfl rfl dX6_init_90 rfl (by decide) (by decide) (fun h22 m22 => ?_)
  refine J.aload_n dX6_init_93 rfl rfl ?_
  refine J.aload_n dX6_init_94 rfl rfl ?_
  refine mk_puta (j := 0) (t := p1) m22 ff_X6_46 rfl rfl dX6_init_95 rfl rfl rfl (fun h23 m23 => ?_)
  refine J.aload_n dX6_init_98 rfl rfl ?_
  refine J.aload_n dX6_init_99 rfl rfl ?_
  refine mk_puta (j := 0) (t := p2) m23 ff_X6_50 rfl rfl dX6_init_100 rfl rfl rfl (fun h24 m24 => ?_)
  exact J.retv dX6_init_103 rfl (hQ h24 m24)
def f_X9 (b : Nat) (I : mI) : mI := I
set_option maxRecDepth 100000 in
set_option maxHeartbeats 4000000 in
theorem k_X9_init {E : Envt} {d : Nat} {Q : Pst} {h : mS} {I : mI} {L : mL} {b : Nat} {p1 : Nat} {p2 : Nat} (hb : h.2.2 = b + 1) (hz : ∀ a i, b ≤ a → h.2.1 a i = none) (hk : h.1 b = (9, 0)) (hQ : ∀ h', MK h h' b [(9, 0), (14, 64), (14, 64), (14, 64), (14, 4), (14, 4)] [(0, 6, 5), (0, 5, 4), (0, 4, 3), (0, 3, 2), (0, 2, 1)] [(0, 1, p2), (0, 0, p1)] → Q none h' (f_X9 b I) L) : CT E mX9_init (d + 1) 5 (200) [.ref (eB E + b), .ref (eB E + p1), .ref (eB E + p2)] h I L Q := by
  have m0 : MK h h b [(9, 0)] [] [] := MK.one hb hz hk
  refine CT.of (by decide) [some (.ref (eB E + (b + 0))), some (.ref (eB E + p1)), some (.ref (eB E + p2))] rfl (Nat.le_of_ble_eq_true rfl) ?_
  refine J.aload_n dX9_init_0 rfl rfl ?_
  refine J.objInit ml_X9_3 oi1 oi2 dX9_init_1 (Nat.le_of_ble_eq_true rfl) ?_
  refine J.aload_n dX9_init_4 rfl rfl ?_
  refine J.bipush (v := 64) dX9_init_5 (by decide) ?_
  refine mk_I m0 (bc := 4) (bs := 136) (l := 1) (ks' := [(9, 0), (14, 64)]) rfl rfl (by decide) (by decide) (by decide) dX9_init_7 (fun h1 m1 => ?_)
  refine mk_put (j := 0) (t := 1) m1 ff_X9_9 rfl rfl dX9_init_9 rfl (by decide) (by decide) (fun h2 m2 => ?_)
  refine J.aload_n dX9_init_12 rfl rfl ?_
  refine J.bipush (v := 64) dX9_init_13 (by decide) ?_
  refine mk_I m2 (bc := 3) (bs := 72) (l := 2) (ks' := [(9, 0), (14, 64), (14, 64)]) rfl rfl (by decide) (by decide) (by decide) dX9_init_15 (fun h3 m3 => ?_)
  refine mk_put (j := 0) (t := 2) m3 ff_X9_15 rfl rfl dX9_init_17 rfl (by decide) (by decide) (fun h4 m4 => ?_)
  refine J.aload_n dX9_init_20 rfl rfl ?_
  refine J.bipush (v := 64) dX9_init_21 (by decide) ?_
  refine mk_I m4 (bc := 2) (bs := 8) (l := 3) (ks' := [(9, 0), (14, 64), (14, 64), (14, 64)]) rfl rfl (by decide) (by decide) (by decide) dX9_init_23 (fun h5 m5 => ?_)
  refine mk_put (j := 0) (t := 3) m5 ff_X9_18 rfl rfl dX9_init_25 rfl (by decide) (by decide) (fun h6 m6 => ?_)
  refine J.aload_n dX9_init_28 rfl rfl ?_
  refine J.iconst (v := 4) dX9_init_29 (by decide) ?_
  refine mk_I m6 (bc := 1) (bs := 4) (l := 4) (ks' := [(9, 0), (14, 64), (14, 64), (14, 64), (14, 4)]) rfl rfl (by decide) (by decide) (by decide) dX9_init_30 (fun h7 m7 => ?_)
  refine mk_put (j := 0) (t := 4) m7 ff_X9_21 rfl rfl dX9_init_32 rfl (by decide) (by decide) (fun h8 m8 => ?_)
  refine J.aload_n dX9_init_35 rfl rfl ?_
  refine J.iconst (v := 4) dX9_init_36 (by decide) ?_
  refine mk_I m8 (bc := 0) (bs := 0) (l := 5) (ks' := [(9, 0), (14, 64), (14, 64), (14, 64), (14, 4), (14, 4)]) rfl rfl (by decide) (by decide) (by decide) dX9_init_37 (fun h9 m9 => ?_)
  refine mk_put (j := 0) (t := 5) m9 ff_X9_24 rfl rfl dX9_init_39 rfl (by decide) (by decide) (fun h10 m10 => ?_)
  refine J.aload_n dX9_init_42 rfl rfl ?_
  refine J.aload_n dX9_init_43 rfl rfl ?_
  refine mk_puta (j := 0) (t := p1) m10 ff_X9_27 rfl rfl dX9_init_44 rfl rfl rfl (fun h11 m11 => ?_)
  refine J.aload_n dX9_init_47 rfl rfl ?_
  refine J.aload_n dX9_init_48 rfl rfl ?_
  refine mk_puta (j := 0) (t := p2) m11 ff_X9_31 rfl rfl dX9_init_49 rfl rfl rfl (fun h12 m12 => ?_)
  exact J.retv dX9_init_52 rfl (hQ h12 m12)
