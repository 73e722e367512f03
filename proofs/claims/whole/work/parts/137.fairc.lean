/-! texts: the component makes one -/
theorem SL.mk {h h1 : mS} {b : Nat} {ks : List (Nat × Nat)} {rs ar : List (Nat × Nat × Nat)} (hs : SL h) (m : MK h h1 b ks rs ar) (hb : 147 ≤ b) : SL h1 := by
  obtain ⟨m1, m2, m3, m4, m5, m6⟩ := m
  have hlay : ∀ q ∈ layR, q.1 < 147 := by decide +kernel
  refine ⟨by omega, fun a ha => by rw [(m5 a (by omega)).1]; exact hs.2.1 a ha, fun q hq => ?_⟩
  have := hlay q hq
  rw [(m5 q.1 (by omega)).2]; exact hs.2.2 q hq
theorem UH.mk {h h1 : mS} {ks : List (Nat × Nat)} {rs ar : List (Nat × Nat × Nat)} (m : MK h h1 h.2.2 ks rs ar) : UH h h1 :=
  ⟨by rw [m.1]; omega, fun a ha => (m.2.2.2.2.1 a ha).1, fun a ha _ _ _ => (m.2.2.2.2.1 a ha).2⟩
section FAI
variable {E : Envt} {d : Nat} {Q : Pst} {h : mS} {I : mI} {L : mL}
theorem c_flagsA {a0 a1 n0 n1 : Nat} (hs : SL h) (hl0 : a0 < h.2.2) (hk0 : h.1 a0 = (16, n0)) (hl1 : a1 < h.2.2) (hk1 : h.1 a1 = (16, n1)) (hle : n1 ≤ n0) (hn : n0 < 2 ^ 31) (hne : a0 ≠ a1) (hbz : ∀ i, i < n1 → bz (I a0 i)) (hQ : ∀ f : Nat → Int32, (∀ i, i < n1 → f i = I a0 i) → (∀ i, n1 ≤ i → f i = I a1 i) → Q none h (sA I a1 f) L) : (CT E mX11_copyFlags d 0 0 [.ref (eB E + a0), .ref (eB E + a1)] h I L Q) := by
  refine w_X11_copyFlags hs hl0 hk0 hl1 hk1 ?_
  have K : ∀ k, k ≤ n1 → ∀ f : Nat → Int32, (∀ i, i < k → f i = I a0 i) → (∀ i, n1 ≤ i → f i = I a1 i) → (J E mX11_copyFlags d Q 0 0 2 [some (.ref (eB E + a0)), some (.ref (eB E + a1)), some (.int (nI k))] [] h (sA I a1 f) L) := by
    refine dn n1 ?_ ?_
    · intro f h1 h2
      refine w_X11_copyFlags_2 hs hl0 hk0 hl1 hk1 _ ?_
      refine ⟨fun _ => hQ f h1 h2, fun _ => br_t (nI_le (Nat.le_refl _) (by omega)) (hQ f h1 h2)⟩
    · intro k hk ih f h1 h2
      refine w_X11_copyFlags_2 hs hl0 hk0 hl1 hk1 _ (br_f (nI_ge (by omega) hn) (br_f (nI_ge hk (by omega)) ?_))
      rw [nI_clamp (by omega), sA_ne hne, nI_1]
      refine ⟨vp_in_nI (by omega) hn, vp_in_nI hk (by omega), hbz k hk, ?_⟩
      have e : uI (sA I a1 f) a1 k (I a0 k) = sA I a1 (upd f k (I a0 k)) := by
        funext c j
        by_cases e1 : c = a1
        · subst e1; rw [uI_at, sA_at, sA_at]
        · rw [uI_ne e1, sA_ne e1, sA_ne e1]
      rw [e]
      refine ih _ (fun i hi => ?_) (fun i hi => ?_)
      · by_cases e1 : i = k
        · subst e1; exact upd_same'
        · rw [upd_ne' e1]; exact h1 i (by omega)
      · rw [upd_ne' (by omega)]; exact h2 i hi
  have := K 0 (by omega) (I a1) (fun i hi => absurd hi (by omega)) (fun i _ => rfl)
  rw [sA_id] at this
  exact this
theorem c_fair (hs : SL h) {nl nt : Nat} (n16 : nl ≤ 16) (n64 : nt ≤ 64) (e6 : I 47 6 = nI nl) (e7 : I 47 7 = nI nt) (bzf : ∀ j, j < nt → bz (I 55 j))
    (hQ : ∀ h' I', UH h h' → (∀ a, a < h.2.2 → h'.2.1 a = h.2.1 a) → SL h' → LT h' h.2.2 nl nt → (∀ a, a < h.2.2 → I' a = I a) → I' h.2.2 0 = nI nl → (∀ i, i < nl → I' (h.2.2 + 1) i = I 49 i) → (∀ i, i < nl → I' (h.2.2 + 2) i = I 50 i) → (∀ i, i ≤ nl → I' (h.2.2 + 3) i = I 51 i) → (∀ i, i < nt → I' (h.2.2 + 4) i = I 52 i) → (∀ i, i < nt → I' (h.2.2 + 5) i = I 53 i) → (∀ i, i < nt → I' (h.2.2 + 6) i = I 54 i) → (∀ i, i < nt → I' (h.2.2 + 7) i = I 55 i) → Q (some (.ref (eB E + h.2.2))) h' I' L) :
    CT E mX8_fairCopy (d + 2) 8 400 [.ref (eB E + 47)] h I L Q := by
  have h147 := hs.1
  refine CT.of (by decide) [some (.ref (eB E + 47)), none] rfl (Nat.le_of_ble_eq_true rfl) (J.zr fun z0 => ?_)
  have m0 : MK h h h.2.2 [] [] [] := ⟨rfl, fun j q hj => by simp at hj, fun q hq => (by cases hq), fun q hq => (by cases hq), fun a _ => ⟨rfl, rfl⟩, fun a i h1 _ _ => (z0 a h1).2 i⟩
  refine J.less (bc' := 7 + 1) (bs' := (0 + nt + nt + nt + nt + (nl + 1) + nl + nl) + 8) ?_ (by omega) (by omega)
  refine mk_new m0 (l := 0) (ks' := [(10, 0)]) rfl rfl cls10 nfl10 cl_X8_9 isX10 inX10 dX8_fairCopy_0 (fun h1 m1 => ?_)
  have hs1 : SL h1 := hs.mk m1 h147
  refine J.dup dX8_fairCopy_3 rfl ?_
  refine J.aload_n dX8_fairCopy_4 rfl rfl ?_
  refine J.getI (x := I 47 6) fl_X8_32 rfl dX8_fairCopy_5 (lt47 hs1) (kk47 hs1) rfl ?_
  refine J.aload_n dX8_fairCopy_8 rfl rfl ?_
  refine J.getI (x := I 47 7) fl_X8_35 rfl dX8_fairCopy_9 (lt47 hs1) (kk47 hs1) rfl ?_
  refine J.less (bc' := 0 + 7) (bs' := 0 + (0 + nt + nt + nt + nt + (nl + 1) + nl + nl)) ?_ (by omega) (by omega)
  refine J.callI (M' := mX10_init) (index := 11) (bc := 0) (bs := 0) (bc' := 7) (bs' := 0 + nt + nt + nt + nt + (nl + 1) + nl + nl) (st := [.ref (eB E + (h.2.2 + 0))]) [.int (I 47 6), .int (I 47 7)] ml_X8_11 cv_X10_init dX8_fairCopy_12 rfl rfl (Nat.le_of_ble_eq_true rfl) ?_
  refine k_X10_init (d := d) (b := h.2.2 + 0) (nl := nl) (nt := nt) e6 e7 n16 n64 (show h1.2.2 = (h.2.2 + 0) + 1 from m1.1) (m1.z 0 (by decide)) (m1.kd 0 rfl) (fun h2 e2 => ?_)
  have m2 : MK h h2 h.2.2 [(10, 0), (14, nl), (14, nl), (14, (nl + 1)), (14, nt), (14, nt), (14, nt), (16, nt)] [(0, 7, 7), (0, 6, 6), (0, 5, 5), (0, 4, 4), (0, 3, 3), (0, 2, 2), (0, 1, 1)] [] := MK.app (l := 0) m1 e2 rfl (by decide) rfl rfl (fun q hq => by cases hq)
  have hs2 : SL h2 := hs.mk m2 h147
  have lt : LT h2 h.2.2 nl nt := by
    refine ⟨by rw [m2.1]; exact Nat.le_refl _, ⟨m2.kd 0 rfl, m2.kd 1 rfl, m2.kd 2 rfl, m2.kd 3 rfl, m2.kd 4 rfl, m2.kd 5 rfl, m2.kd 6 rfl, m2.kd 7 rfl⟩, ⟨m2.rf (0, 1, 1) (by decide), m2.rf (0, 2, 2) (by decide), m2.rf (0, 3, 3) (by decide), m2.rf (0, 4, 4) (by decide), m2.rf (0, 5, 5) (by decide), m2.rf (0, 6, 6) (by decide), m2.rf (0, 7, 7) (by decide)⟩, n16, n64⟩
  show J E mX8_fairCopy (d + 2) Q 0 0 15 _ [.ref (eB E + h.2.2)] h2 (uI I h.2.2 0 (nI nl)) L
  refine J.astore_n (vs' := [some (.ref (eB E + 47)), some (.ref (eB E + h.2.2))]) dX8_fairCopy_15 rfl (by decide) rfl ?_
  have uh := UH.mk m2
  have hr : ∀ a, a < h.2.2 → h2.2.1 a = h.2.1 a := fun a ha => (m2.2.2.2.2.1 a ha).2
  generalize hb : h.2.2 = b at *
  refine w_X8_fairCopy_16 hs2 lt ?_
  refine c_copyA hs2 (lt49 hs2) (kk49 hs2) lt.l1 lt.k1 (by decide) (by omega) (fun f1 g1 _ => qv_i ?_)
  refine c_copyA hs2 (lt50 hs2) (kk50 hs2) lt.l2 lt.k2 (by decide) (by omega) (fun f2 g2 _ => qv_i ?_)
  refine c_copyA hs2 (lt51 hs2) (kk51 hs2) lt.l3 lt.k3 (by decide) (by omega) (fun f3 g3 _ => qv_i ?_)
  refine c_copyA hs2 (lt52 hs2) (kk52 hs2) lt.l4 lt.k4 (by decide) (by omega) (fun f4 g4 _ => qv_i ?_)
  refine c_copyA hs2 (lt53 hs2) (kk53 hs2) lt.l5 lt.k5 (by decide) (by omega) (fun f5 g5 _ => qv_i ?_)
  refine c_copyA hs2 (lt54 hs2) (kk54 hs2) lt.l6 lt.k6 (by decide) (by omega) (fun f6 g6 _ => qv_i ?_)
  refine c_flagsA hs2 (lt55 hs2) (kk55 hs2) lt.l7 lt.k7 (by omega) (by decide) (by omega) (fun i hi => ?_) (fun f7 g7 _ => qv_i ?_)
  · rw [sA_ne (by omega), sA_ne (by omega), sA_ne (by omega), sA_ne (by omega), sA_ne (by omega), sA_ne (by omega), uI_ne (by omega)]; exact bzf i hi
  refine hQ _ _ uh hr hs2 lt (fun a ha => ?_) ?_ (fun i hi => ?_) (fun i hi => ?_) (fun i hi => ?_) (fun i hi => ?_) (fun i hi => ?_) (fun i hi => ?_) (fun i hi => ?_)
  · rw [sA_ne (by omega), sA_ne (by omega), sA_ne (by omega), sA_ne (by omega), sA_ne (by omega), sA_ne (by omega), sA_ne (by omega), uI_ne (by omega)]
  · rw [sA_ne (by omega), sA_ne (by omega), sA_ne (by omega), sA_ne (by omega), sA_ne (by omega), sA_ne (by omega), sA_ne (by omega), uI_eq]
  · rw [sA_ne (by omega), sA_ne (by omega), sA_ne (by omega), sA_ne (by omega), sA_ne (by omega), sA_ne (by omega), sA_at, g1 i (by omega) (by omega), uI_ne (by omega)]
  · rw [sA_ne (by omega), sA_ne (by omega), sA_ne (by omega), sA_ne (by omega), sA_ne (by omega), sA_at, g2 i (by omega) (by omega), sA_ne (by omega), uI_ne (by omega)]
  · rw [sA_ne (by omega), sA_ne (by omega), sA_ne (by omega), sA_ne (by omega), sA_at, g3 i (by omega) (by omega), sA_ne (by omega), sA_ne (by omega), uI_ne (by omega)]
  · rw [sA_ne (by omega), sA_ne (by omega), sA_ne (by omega), sA_at, g4 i (by omega) (by omega), sA_ne (by omega), sA_ne (by omega), sA_ne (by omega), uI_ne (by omega)]
  · rw [sA_ne (by omega), sA_ne (by omega), sA_at, g5 i (by omega) (by omega), sA_ne (by omega), sA_ne (by omega), sA_ne (by omega), sA_ne (by omega), uI_ne (by omega)]
  · rw [sA_ne (by omega), sA_at, g6 i (by omega) (by omega), sA_ne (by omega), sA_ne (by omega), sA_ne (by omega), sA_ne (by omega), sA_ne (by omega), uI_ne (by omega)]
  · rw [sA_at, g7 i hi, sA_ne (by omega), sA_ne (by omega), sA_ne (by omega), sA_ne (by omega), sA_ne (by omega), sA_ne (by omega), uI_ne (by omega)]
end FAI
