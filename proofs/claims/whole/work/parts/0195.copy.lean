def cpI (I : mI) (a0 a1 sp dp n : Nat) : mI := fun b j => if b = a1 then va_cpy (I a0) (I a1) sp dp n j else I b j
theorem cpI_ne {I : mI} {a0 a1 sp dp n b : Nat} (h : b ≠ a1) : cpI I a0 a1 sp dp n b = I b := by funext j; simp [cpI, h]
section JCP
variable {E : Envt} {M : Mth} {d : Nat} {Qp : Pst} {bc bs pc : Nat} {vs : List (Option Value)} {st : List Value} {h : mS} {I : mI} {L : mL}
theorem J.copyG {index a0 a1 n0 n1 tk ck : Nat} {ty : FieldType} {sp dp n : Int32} (htk : ∀ E : Envt, (tysE E)[tk]? = some (eA E tk, ty)) (hcel : ∀ (I' : mI) (a n : Nat), h.1 a = (ck, n) → cel E h I' L a = .inl (eA E tk, n, .inl (I' a))) (hprim : refKind ty = false)
    (hl : Cond.methodLink M.1.cls index arraycopyName ∈ gT) (hd : decode M.2.1 pc = .ok (.invokestatic index, 3)) (hst : (st.map fun v => v.category).sum ≤ 8) (ha0 : a0 < h.2.2) (hk0 : h.1 a0 = (ck, n0)) (ha1 : a1 < h.2.2) (hk1 : h.1 a1 = (ck, n1))
    (h1 : ¬ sp < 0) (h2 : ¬ dp < 0) (h3 : ¬ n < 0) (h4 : sp.toNatClampNeg + n.toNatClampNeg ≤ n0) (h5 : dp.toNatClampNeg + n.toNatClampNeg ≤ n1) (hfit : ∀ i, i < n.toNatClampNeg → fits ty (.int (I a0 (sp.toNatClampNeg + i))) = true)
    (hnat : Cond.native arraycopyName ∈ gT) (hstat : Cond.static arraycopyName ∈ gT) (hini : Cond.initialized "java/lang/System" ∈ gT)
    (k : J E M (d + 1) Qp bc bs (pc + 3) vs st h (cpI I a0 a1 sp.toNatClampNeg dp.toNatClampNeg n.toNatClampNeg) L) : J E M (d + 1) Qp bc bs pc vs (.int n :: .int dp :: .ref (eB E + a1) :: .int sp :: .ref (eB E + a0) :: st) h I L := by
  intro p e R s m args below meth c Z H locs cells slots ls F g2 g3 g4 S P V g8 g9 g10 T hT X
  have nn : ∀ z : Int32, ¬ z < 0 → z.toInt = (z.toNatClampNeg : Int) := by
    intro z hz
    have hz0 : (0 : Int) ≤ z.toInt := by
      have := Int32.not_lt.mp hz
      simpa using Int32.le_iff_toInt_le.mp this
    show z.toInt = ((z.toInt.toNat : Nat) : Int)
    omega
  have hnw : nativeFrameWords "java/lang/System" "arraycopy" 5 ≤ 40 := by decide
  have hts := F.2.2.2.2.1
  have hw0 := ws_get (E := E) (h := h) (I := I) (L := L) ha0
  rw [hcel I a0 n0 hk0] at hw0
  have hw1 := ws_get (E := E) (h := h) (I := I) (L := L) ha1
  rw [hcel I a1 n1 hk1] at hw1
  have hc0 : H[eB E + a0]? = some (vp_cell (eA E tk) (n0, .inl (I a0))) := P.1 a0 _ hw0
  have hc1 : H[eB E + a1]? = some (vp_cell (eA E tk) (n1, .inl (I a1))) := P.1 a1 _ hw1
  obtain ⟨-, k0, hkk0, cm0, hkkk0⟩ := (S.1.2 tk _ (htk E)).1 n0 (fun j => .int (I a0 j))
  obtain ⟨-, k1, hkk1, cm1, hkkk1⟩ := (S.1.2 tk _ (htk E)).1 n1 (fun j => .int (I a1 j))
  obtain ⟨vm', X', step⟩ := X.arraycopy F.1 F.2.2.2.1 (hts _ hl) (hts _ hnat) (hts _ hstat) (hts _ hini) (src := eB E + a0) (dst := eB E + a1) (cs := vp_cell (eA E tk) (n0, .inl (I a0))) (cd := vp_cell (eA E tk) (n1, .inl (I a1))) (srcPos := sp) (destPos := dp) (n := n) (by rw [hT]; exact hc0) (by rw [hT]; exact hc1)
    (fun _ h => by cases h) (fun _ h => by cases h) (fun h => by cases h) (fun h => by cases h) hkk0 hkk1 hkkk0 hkkk1 (by simp [hprim]) h1 h2 h3
    (by rw [nn sp h1, nn n h3]; show ¬ _ > ((arrV (eA E tk) n0 (fun j => .int (I a0 j))).slots.size : Int); rw [arrV_size]; omega)
    (by rw [nn dp h2, nn n h3]; show ¬ _ > ((arrV (eA E tk) n1 (fun j => .int (I a1 j))).slots.size : Int); rw [arrV_size]; omega)
    (fun vm₁ _ i hi => by
      have e : (vp_cell (eA E tk) (n0, .inl (I a0))).slots.getD (sp.toNatClampNeg + i) .null = .int (I a0 (sp.toNatClampNeg + i)) := by
        show (arrV (eA E tk) n0 (fun j => .int (I a0 j))).slots.getD _ _ = _
        rw [Array.getD_eq_getD_getElem?, arrV_read _ _ (by omega)]
        rfl
      refine ⟨?_, ?_⟩
      · rw [e]
        exact hfit i hi
      · rw [e]
        exact trivial)
    (g := F0 m pc ls (.int n :: .int dp :: .ref (eB E + a1) :: .int sp :: .ref (eB E + a0) :: st)) rfl (g10.1.trans F.2.2.1.symm) (rest := st) rfl (by rw [F.2.1]; exact hd) (by omega) (by show 2 * 0 + _ + (nativeFrameWords "java/lang/System" "arraycopy" 5 + 11) ≤ _; omega)
  have e1 : copied (vp_cell (eA E tk) (n0, .inl (I a0))) (vp_cell (eA E tk) (n1, .inl (I a1))) sp dp n = vp_cell (eA E tk) (n1, .inl (va_cpy (I a0) (I a1) sp.toNatClampNeg dp.toNatClampNeg n.toNatClampNeg)) := va_copied (fun z => .int z) (eA E tk) (eA E tk) (I a0) (I a1) h4
  rw [e1] at X' step
  have hlt : eB E + a1 < H.size := (Array.getElem?_eq_some_iff.mp hc1).1
  generalize hcell : vp_cell (eA E tk) (n1, .inl (va_cpy (I a0) (I a1) sp.toNatClampNeg dp.toNatClampNeg n.toNatClampNeg)) = cell at X' step
  have hheap : ((T.setVm vm').setCell (eB E + a1) cell).heap = H.setIfInBounds (eB E + a1) cell := by rw [← hT]; rfl
  have oq : ∀ q : Nat, q ≠ eB E + a1 → (H.setIfInBounds (eB E + a1) cell)[q]? = H[q]? := fun q hq => by simp [Array.getElem?_setIfInBounds, Ne.symm hq]
  have zz : (H.setIfInBounds (eB E + a1) cell).size = H.size := by simp
  obtain ⟨t, a1', b1⟩ := k p e R s m args below meth c Z (H.setIfInBounds (eB E + a1) cell) _ cells slots ls F g2 g3 g4 (S.put oq)
    (P.put (e := cel E h I L a1) ha1 rfl (by
        rw [hcel _ a1 n1 hk1]
        show (H.setIfInBounds (eB E + a1) cell)[eB E + a1]? = some (vp_cell _ _)
        rw [← hcell]
        simp only [Array.getElem?_setIfInBounds, hlt, if_true]
        congr 3
        congr 1
        funext j
        simp [cpI]) (fun b hb => cel_congr rfl rfl (cpI_ne hb) rfl) zz oq (fun b hb => by rw [cpI_ne (by omega)]; exact P.2.2 b hb))
    ⟨by rw [zz]; exact V.1, fun q y1 y2 => by
      rw [oq q (fun e => y2 (by rw [e]; show eB E ≤ eB E + a1; omega))]
      exact V.2.1 q y1 y2, fun q hq => by
      rcases List.mem_append.mp hq with hq | hq
      · exact V.2.2 q hq
      · obtain ⟨z, -, hz⟩ := List.mem_map.mp hq
        rw [← hz]
        show eB E ≤ eB E + a1
        omega⟩ g8 g9 g10 _ hheap X'
  exact ⟨t, step t a1', b1⟩
theorem J.copyI {index a0 a1 n0 n1 : Nat} {sp dp n : Int32} (hl : Cond.methodLink M.1.cls index arraycopyName ∈ gT) (hd : decode M.2.1 pc = .ok (.invokestatic index, 3)) (hst : (st.map fun v => v.category).sum ≤ 8) (ha0 : a0 < h.2.2) (hk0 : h.1 a0 = (14, n0)) (ha1 : a1 < h.2.2) (hk1 : h.1 a1 = (14, n1))
    (h1 : ¬ sp < 0) (h2 : ¬ dp < 0) (h3 : ¬ n < 0) (h4 : sp.toNatClampNeg + n.toNatClampNeg ≤ n0) (h5 : dp.toNatClampNeg + n.toNatClampNeg ≤ n1)
    (hnat : Cond.native arraycopyName ∈ gT) (hstat : Cond.static arraycopyName ∈ gT) (hini : Cond.initialized "java/lang/System" ∈ gT)
    (k : J E M (d + 1) Qp bc bs (pc + 3) vs st h (cpI I a0 a1 sp.toNatClampNeg dp.toNatClampNeg n.toNatClampNeg) L) : J E M (d + 1) Qp bc bs pc vs (.int n :: .int dp :: .ref (eB E + a1) :: .int sp :: .ref (eB E + a0) :: st) h I L :=
  J.copyG (tk := 1) (ck := 14) (ty := .int) (fun _ => rfl) (fun I' a n hk => cel_I hk) rfl hl hd hst ha0 hk0 ha1 hk1 h1 h2 h3 h4 h5 (fun i _ => rfl) hnat hstat hini k
theorem J.copyB {index a0 a1 n0 n1 : Nat} {sp dp n : Int32} (hl : Cond.methodLink M.1.cls index arraycopyName ∈ gT) (hd : decode M.2.1 pc = .ok (.invokestatic index, 3)) (hst : (st.map fun v => v.category).sum ≤ 8) (ha0 : a0 < h.2.2) (hk0 : h.1 a0 = (13, n0)) (ha1 : a1 < h.2.2) (hk1 : h.1 a1 = (13, n1))
    (h1 : ¬ sp < 0) (h2 : ¬ dp < 0) (h3 : ¬ n < 0) (h4 : sp.toNatClampNeg + n.toNatClampNeg ≤ n0) (h5 : dp.toNatClampNeg + n.toNatClampNeg ≤ n1) (hfit : ∀ i, i < n.toNatClampNeg → fits .byte (.int (I a0 (sp.toNatClampNeg + i))) = true)
    (hnat : Cond.native arraycopyName ∈ gT) (hstat : Cond.static arraycopyName ∈ gT) (hini : Cond.initialized "java/lang/System" ∈ gT)
    (k : J E M (d + 1) Qp bc bs (pc + 3) vs st h (cpI I a0 a1 sp.toNatClampNeg dp.toNatClampNeg n.toNatClampNeg) L) : J E M (d + 1) Qp bc bs pc vs (.int n :: .int dp :: .ref (eB E + a1) :: .int sp :: .ref (eB E + a0) :: st) h I L :=
  J.copyG (tk := 0) (ck := 13) (ty := .byte) (fun _ => rfl) (fun I' a n hk => cel_B hk) rfl hl hd hst ha0 hk0 ha1 hk1 h1 h2 h3 h4 h5 hfit hnat hstat hini k
end JCP
