theorem lset_mem {vs vs' : List (Option Value)} {i : Nat} {v : Value} (hv : lset vs i v = vs') (j : Nat) (w : Value) (hj : vs'[j]? = some (some w)) : (j, w) ∈ (i, v) :: (toA 0 vs).filter (fun q => !(q.1 == i) && !(q.1 + 1 == i && q.2.category == 2)) := by
  subst hv
  rcases lset_spec hj with ⟨rfl, rfl⟩ | ⟨a, b, c⟩
  · exact List.mem_cons_self
  · refine List.mem_cons_of_mem _ (List.mem_filter.mpr ⟨toA_mem.mpr ⟨j, by omega, b⟩, ?_⟩)
    simp only [Bool.and_eq_true, Bool.not_eq_true', beq_eq_false_iff_ne, ne_eq, Bool.and_eq_false_imp, beq_iff_eq]
    exact ⟨a, fun h1 h2 => c ⟨h1, h2⟩⟩
def lset2 (vs : List (Option Value)) (i : Nat) (v : Value) : List (Option Value) := (lset vs i v).set (i + 1) none
theorem lset2_mem {vs vs' : List (Option Value)} {i : Nat} {v : Value} (hv : lset2 vs i v = vs') (j : Nat) (w : Value) (hj : vs'[j]? = some (some w)) : (j, w) ∈ (i, v) :: (toA 0 vs).filter (fun q => !(q.1 == i) && (!(q.1 == i + 1) && !(q.1 + 1 == i && q.2.category == 2))) := by
  subst hv
  unfold lset2 at hj
  by_cases hji : j = i + 1
  · subst hji
    rw [List.getElem?_set] at hj
    simp at hj
  · rw [List.getElem?_set_ne (Ne.symm hji)] at hj
    rcases lset_spec hj with ⟨rfl, rfl⟩ | ⟨a, b, c⟩
    · exact List.mem_cons_self
    · refine List.mem_cons_of_mem _ (List.mem_filter.mpr ⟨toA_mem.mpr ⟨j, by omega, b⟩, ?_⟩)
      simp only [Bool.and_eq_true, Bool.not_eq_true', beq_eq_false_iff_ne, ne_eq, Bool.and_eq_false_imp, beq_iff_eq]
      exact ⟨a, hji, fun h1 h2 => c ⟨h1, h2⟩⟩
section JR2
variable {E : Envt} {M : Mth} {d : Nat} {Qp : Pst} {bc bs pc : Nat} {vs : List (Option Value)} {st : List Value} {h : mS} {I : mI} {L : mL}
theorem J.iadd {x y : Int32} (hd : decode M.2.1 pc = .ok (.iadd, 1)) (k : J E M d Qp bc bs (pc + 1) vs (.int (x + y) :: st) h I L) : J E M d Qp bc bs pc vs (.int y :: .int x :: st) h I L :=
  J.go (fun p e R s m args below meth c Z H locs cells slots ls F _ _ _ hl k => lv_iadd F.1 F.2.1 hd k) k
theorem J.isub {x y : Int32} (hd : decode M.2.1 pc = .ok (.isub, 1)) (k : J E M d Qp bc bs (pc + 1) vs (.int (x - y) :: st) h I L) : J E M d Qp bc bs pc vs (.int y :: .int x :: st) h I L :=
  J.go (fun p e R s m args below meth c Z H locs cells slots ls F _ _ _ hl k => lv_isub F.1 F.2.1 hd k) k
theorem J.imul {x y : Int32} (hd : decode M.2.1 pc = .ok (.imul, 1)) (k : J E M d Qp bc bs (pc + 1) vs (.int (x * y) :: st) h I L) : J E M d Qp bc bs pc vs (.int y :: .int x :: st) h I L :=
  J.go (fun p e R s m args below meth c Z H locs cells slots ls F _ _ _ hl k => lv_imul F.1 F.2.1 hd k) k
theorem J.iand {x y : Int32} (hd : decode M.2.1 pc = .ok (.iand, 1)) (k : J E M d Qp bc bs (pc + 1) vs (.int (x &&& y) :: st) h I L) : J E M d Qp bc bs pc vs (.int y :: .int x :: st) h I L :=
  J.go (fun p e R s m args below meth c Z H locs cells slots ls F _ _ _ hl k => lv_iand F.1 F.2.1 hd k) k
theorem J.ior {x y : Int32} (hd : decode M.2.1 pc = .ok (.ior, 1)) (k : J E M d Qp bc bs (pc + 1) vs (.int (x ||| y) :: st) h I L) : J E M d Qp bc bs pc vs (.int y :: .int x :: st) h I L :=
  J.go (fun p e R s m args below meth c Z H locs cells slots ls F _ _ _ hl k => lv_ior F.1 F.2.1 hd k) k
theorem J.ixor {x y : Int32} (hd : decode M.2.1 pc = .ok (.ixor, 1)) (k : J E M d Qp bc bs (pc + 1) vs (.int (x ^^^ y) :: st) h I L) : J E M d Qp bc bs pc vs (.int y :: .int x :: st) h I L :=
  J.go (fun p e R s m args below meth c Z H locs cells slots ls F _ _ _ hl k => lv_ixor F.1 F.2.1 hd k) k
theorem J.ladd {x y : Int64} (hd : decode M.2.1 pc = .ok (.ladd, 1)) (k : J E M d Qp bc bs (pc + 1) vs (.long (x + y) :: st) h I L) : J E M d Qp bc bs pc vs (.long y :: .long x :: st) h I L :=
  J.go (fun p e R s m args below meth c Z H locs cells slots ls F _ _ _ hl k => lv_ladd F.1 F.2.1 hd k) k
theorem J.lsub {x y : Int64} (hd : decode M.2.1 pc = .ok (.lsub, 1)) (k : J E M d Qp bc bs (pc + 1) vs (.long (x - y) :: st) h I L) : J E M d Qp bc bs pc vs (.long y :: .long x :: st) h I L :=
  J.go (fun p e R s m args below meth c Z H locs cells slots ls F _ _ _ hl k => lv_lsub F.1 F.2.1 hd k) k
theorem J.lmul {x y : Int64} (hd : decode M.2.1 pc = .ok (.lmul, 1)) (k : J E M d Qp bc bs (pc + 1) vs (.long (x * y) :: st) h I L) : J E M d Qp bc bs pc vs (.long y :: .long x :: st) h I L :=
  J.go (fun p e R s m args below meth c Z H locs cells slots ls F _ _ _ hl k => lv_lmul F.1 F.2.1 hd k) k
theorem J.lor {x y : Int64} (hd : decode M.2.1 pc = .ok (.lor, 1)) (k : J E M d Qp bc bs (pc + 1) vs (.long (x ||| y) :: st) h I L) : J E M d Qp bc bs pc vs (.long y :: .long x :: st) h I L :=
  J.go (fun p e R s m args below meth c Z H locs cells slots ls F _ _ _ hl k => lv_lor F.1 F.2.1 hd k) k
theorem J.idiv {x y : Int32} (hd : decode M.2.1 pc = .ok (.idiv, 1)) (hne : ¬ y = 0) (k : J E M d Qp bc bs (pc + 1) vs (.int (x / y) :: st) h I L) : J E M d Qp bc bs pc vs (.int y :: .int x :: st) h I L :=
  J.go (fun p e R s m args below meth c Z H locs cells slots ls F _ _ _ hl k => lv_idiv F.1 F.2.1 hd hne k) k
theorem J.ldiv {x y : Int64} (hd : decode M.2.1 pc = .ok (.ldiv, 1)) (hne : ¬ y = 0) (k : J E M d Qp bc bs (pc + 1) vs (.long (x / y) :: st) h I L) : J E M d Qp bc bs pc vs (.long y :: .long x :: st) h I L :=
  J.go (fun p e R s m args below meth c Z H locs cells slots ls F _ _ _ hl k => lv_ldiv F.1 F.2.1 hd hne k) k
theorem J.irem {x y : Int32} (hd : decode M.2.1 pc = .ok (.irem, 1)) (hne : ¬ y = 0) (k : J E M d Qp bc bs (pc + 1) vs (.int (x - x / y * y) :: st) h I L) : J E M d Qp bc bs pc vs (.int y :: .int x :: st) h I L :=
  J.go (fun p e R s m args below meth c Z H locs cells slots ls F _ _ _ hl k => lv_irem F.1 F.2.1 hd hne k) k
theorem J.ineg {x : Int32} (hd : decode M.2.1 pc = .ok (.ineg, 1)) (k : J E M d Qp bc bs (pc + 1) vs (.int (-x) :: st) h I L) : J E M d Qp bc bs pc vs (.int x :: st) h I L :=
  J.go (fun p e R s m args below meth c Z H locs cells slots ls F _ _ _ hl k => lv_ineg F.1 F.2.1 hd k) k
theorem J.ishl {x y : Int32} (hd : decode M.2.1 pc = .ok (.ishl, 1)) (k : J E M d Qp bc bs (pc + 1) vs (.int (x <<< (y &&& 31)) :: st) h I L) : J E M d Qp bc bs pc vs (.int y :: .int x :: st) h I L :=
  J.go (fun p e R s m args below meth c Z H locs cells slots ls F _ _ _ hl k => lv_ishl F.1 F.2.1 hd k) k
theorem J.ishr {x y : Int32} (hd : decode M.2.1 pc = .ok (.ishr, 1)) (k : J E M d Qp bc bs (pc + 1) vs (.int (x >>> (y &&& 31)) :: st) h I L) : J E M d Qp bc bs pc vs (.int y :: .int x :: st) h I L :=
  J.go (fun p e R s m args below meth c Z H locs cells slots ls F _ _ _ hl k => lv_ishr F.1 F.2.1 hd k) k
theorem J.iushr {x y : Int32} (hd : decode M.2.1 pc = .ok (.iushr, 1)) (k : J E M d Qp bc bs (pc + 1) vs (.int ((x.toUInt32 >>> (y.toUInt32 &&& Int32.toUInt32 31)).toInt32) :: st) h I L) : J E M d Qp bc bs pc vs (.int y :: .int x :: st) h I L :=
  J.go (fun p e R s m args below meth c Z H locs cells slots ls F _ _ _ hl k => lv_iushr F.1 F.2.1 hd rfl k) k
theorem J.lshl {x : Int64} {y : Int32} (hd : decode M.2.1 pc = .ok (.lshl, 1)) (k : J E M d Qp bc bs (pc + 1) vs (.long (x <<< (y.toInt64 &&& 63)) :: st) h I L) : J E M d Qp bc bs pc vs (.int y :: .long x :: st) h I L :=
  J.go (fun p e R s m args below meth c Z H locs cells slots ls F _ _ _ hl k => lv_lshl F.1 F.2.1 hd rfl k) k
theorem J.i2l {x : Int32} (hd : decode M.2.1 pc = .ok (.i2l, 1)) (k : J E M d Qp bc bs (pc + 1) vs (.long x.toInt64 :: st) h I L) : J E M d Qp bc bs pc vs (.int x :: st) h I L :=
  J.go (fun p e R s m args below meth c Z H locs cells slots ls F _ _ _ hl k => lv_i2l F.1 F.2.1 hd rfl k) k
theorem J.l2i {x : Int64} (hd : decode M.2.1 pc = .ok (.l2i, 1)) (k : J E M d Qp bc bs (pc + 1) vs (.int x.toInt32 :: st) h I L) : J E M d Qp bc bs pc vs (.long x :: st) h I L :=
  J.go (fun p e R s m args below meth c Z H locs cells slots ls F _ _ _ hl k => lv_l2i F.1 F.2.1 hd rfl k) k
theorem J.i2b {x : Int32} (hd : decode M.2.1 pc = .ok (.i2b, 1)) (k : J E M d Qp bc bs (pc + 1) vs (.int x.toInt8.toInt32 :: st) h I L) : J E M d Qp bc bs pc vs (.int x :: st) h I L :=
  J.go (fun p e R s m args below meth c Z H locs cells slots ls F _ _ _ hl k => lv_i2b F.1 F.2.1 hd rfl k) k
theorem J.i2c {x : Int32} (hd : decode M.2.1 pc = .ok (.i2c, 1)) (k : J E M d Qp bc bs (pc + 1) vs (.int (x.toUInt32 % 65536).toInt32 :: st) h I L) : J E M d Qp bc bs pc vs (.int x :: st) h I L :=
  J.go (fun p e R s m args below meth c Z H locs cells slots ls F _ _ _ hl k => lv_i2c F.1 F.2.1 hd rfl k) k
theorem J.lcmp {x y : Int64} (hd : decode M.2.1 pc = .ok (.lcmp, 1)) (k : J E M d Qp bc bs (pc + 1) vs (.int (lg_cmp x y) :: st) h I L) : J E M d Qp bc bs pc vs (.long y :: .long x :: st) h I L :=
  J.go (fun p e R s m args below meth c Z H locs cells slots ls F _ _ _ hl k => W.lcmp F.1 F.2.1 hd k) k
theorem J.dup {a : Value} (hd : decode M.2.1 pc = .ok (.dup, 1)) (ha : a.category = 1) (k : J E M d Qp bc bs (pc + 1) vs (a :: a :: st) h I L) : J E M d Qp bc bs pc vs (a :: st) h I L :=
  J.go (fun p e R s m args below meth c Z H locs cells slots ls F _ _ _ hl k => lv_dup F.1 F.2.1 hd ha k) k
theorem J.pop {a : Value} (hd : decode M.2.1 pc = .ok (.pop, 1)) (ha : a.category = 1) (k : J E M d Qp bc bs (pc + 1) vs (st) h I L) : J E M d Qp bc bs pc vs (a :: st) h I L :=
  J.go (fun p e R s m args below meth c Z H locs cells slots ls F _ _ _ hl k => lv_pop F.1 F.2.1 hd ha k) k
theorem J.dup2 {a b : Value} (hd : decode M.2.1 pc = .ok (.dup2, 1)) (ha : a.category = 1) (hb : b.category = 1) (k : J E M d Qp bc bs (pc + 1) vs (a :: b :: a :: b :: st) h I L) : J E M d Qp bc bs pc vs (a :: b :: st) h I L :=
  J.go (fun p e R s m args below meth c Z H locs cells slots ls F _ _ _ hl k => lv_dup2_11 F.1 F.2.1 hd ha hb k) k
theorem J.ldcw {index : Nat} {v : Int32} (hd : decode M.2.1 pc = .ok (.ldc_w index, 3)) (hc : Cond.constant M.1.cls index v ∈ gT) (k : J E M d Qp bc bs (pc + 3) vs (.int v :: st) h I L) : J E M d Qp bc bs pc vs (st) h I L :=
  J.go (fun p e R s m args below meth c Z H locs cells slots ls F _ _ _ hl k => lv_ldcw F.1 F.2.1 F.2.2.2.1 (F.2.2.2.2.1 _ hc) hd k) k
theorem J.ldc2 {index : Nat} {v : Int64} (hd : decode M.2.1 pc = .ok (.ldc2_w index, 3)) (hc : Cond.constantLong M.1.cls index v ∈ gT) (k : J E M d Qp bc bs (pc + 3) vs (.long v :: st) h I L) : J E M d Qp bc bs pc vs (st) h I L :=
  J.go (fun p e R s m args below meth c Z H locs cells slots ls F _ _ _ hl k => lv_ldc2 F.1 F.2.1 F.2.2.2.1 (F.2.2.2.2.1 _ hc) hd k) k
theorem J.null (hd : decode M.2.1 pc = .ok (.aconst_null, 1)) (k : J E M d Qp bc bs (pc + 1) vs (.null :: st) h I L) : J E M d Qp bc bs pc vs (st) h I L :=
  J.go (fun p e R s m args below meth c Z H locs cells slots ls F _ _ _ hl k => lv_null F.1 F.2.1 hd k) k
theorem J.ldcS (i : Nat) (hi : i < 19) (hM : M.1.cls = RX8) (hd : decode M.2.1 pc = .ok (.ldc (sIdx.getD i 0), 2)) (k : J E M d Qp bc bs (pc + 2) vs (.ref (eK E i) :: st) h I L) : J E M d Qp bc bs pc vs st h I L :=
  J.go (fun p e R s m args below meth c Z H locs cells slots ls F S _ _ hl k => va_ldcS F.1 F.2.1 (by rw [← hM]; exact F.2.2.2.1) (S.2.2.1 i hi) hd k) k
theorem J.aload_nN {q : Fin 4} {i : Nat} (hd : decode M.2.1 pc = .ok (.aload_n q, 1)) (hi : (q : Nat) = i) (hv : vs[i]? = some (some .null)) (k : J E M d Qp bc bs (pc + 1) vs (.null :: st) h I L) : J E M d Qp bc bs pc vs st h I L :=
  J.go (fun p e R s m args below meth c Z H locs cells slots ls F _ _ _ hl k => lv_aload_nN F.1 F.2.1 hd hi (hl.get hv) k) k
theorem J.aloadN {i : Nat} (hd : decode M.2.1 pc = .ok (.aload i, 2)) (hv : vs[i]? = some (some .null)) (k : J E M d Qp bc bs (pc + 2) vs (.null :: st) h I L) : J E M d Qp bc bs pc vs st h I L :=
  J.go (fun p e R s m args below meth c Z H locs cells slots ls F _ _ _ hl k => lv_aloadN F.1 F.2.1 hd (hl.get hv) k) k
theorem J.goto {off : Int} (tgt : Nat) (hd : decode M.2.1 pc = .ok (.goto off, 3)) (ht : (pc : Int) + off = (tgt : Int)) (k : J E M d Qp bc bs tgt vs st h I L) : J E M d Qp bc bs pc vs st h I L :=
  J.go (fun p e R s m args below meth c Z H locs cells slots ls F _ _ _ hl k => lv_goto F.1 F.2.1 hd ht k) k
theorem J.if_eq {x : Int32} {off : Int} (tgt : Nat) (hd : decode M.2.1 pc = .ok (.ifCond .eq off, 3)) (ht : (pc : Int) + off = (tgt : Int)) (kt : x = 0 → J E M d Qp bc bs tgt vs st h I L) (kf : ¬ x = 0 → J E M d Qp bc bs (pc + 3) vs st h I L) : J E M d Qp bc bs pc vs (.int x :: st) h I L := by
  intro p e R s m args below meth c Z H locs cells slots ls h1 h2 h3 h4 h5 h6 h7 h8 h9 h10
  exact lv_if_eq h1.1 h1.2.1 hd ht (fun q => kt q p e R s m args below meth c Z H locs cells slots ls h1 h2 h3 h4 h5 h6 h7 h8 h9 h10) (fun q => kf q p e R s m args below meth c Z H locs cells slots ls h1 h2 h3 h4 h5 h6 h7 h8 h9 h10)
theorem J.if_ne {x : Int32} {off : Int} (tgt : Nat) (hd : decode M.2.1 pc = .ok (.ifCond .ne off, 3)) (ht : (pc : Int) + off = (tgt : Int)) (kt : ¬ x = 0 → J E M d Qp bc bs tgt vs st h I L) (kf : x = 0 → J E M d Qp bc bs (pc + 3) vs st h I L) : J E M d Qp bc bs pc vs (.int x :: st) h I L := by
  intro p e R s m args below meth c Z H locs cells slots ls h1 h2 h3 h4 h5 h6 h7 h8 h9 h10
  exact lv_if_ne h1.1 h1.2.1 hd ht (fun q => kt q p e R s m args below meth c Z H locs cells slots ls h1 h2 h3 h4 h5 h6 h7 h8 h9 h10) (fun q => kf q p e R s m args below meth c Z H locs cells slots ls h1 h2 h3 h4 h5 h6 h7 h8 h9 h10)
theorem J.if_lt {x : Int32} {off : Int} (tgt : Nat) (hd : decode M.2.1 pc = .ok (.ifCond .lt off, 3)) (ht : (pc : Int) + off = (tgt : Int)) (kt : x < 0 → J E M d Qp bc bs tgt vs st h I L) (kf : ¬ x < 0 → J E M d Qp bc bs (pc + 3) vs st h I L) : J E M d Qp bc bs pc vs (.int x :: st) h I L := by
  intro p e R s m args below meth c Z H locs cells slots ls h1 h2 h3 h4 h5 h6 h7 h8 h9 h10
  exact lv_if_lt h1.1 h1.2.1 hd ht (fun q => kt q p e R s m args below meth c Z H locs cells slots ls h1 h2 h3 h4 h5 h6 h7 h8 h9 h10) (fun q => kf q p e R s m args below meth c Z H locs cells slots ls h1 h2 h3 h4 h5 h6 h7 h8 h9 h10)
theorem J.if_ge {x : Int32} {off : Int} (tgt : Nat) (hd : decode M.2.1 pc = .ok (.ifCond .ge off, 3)) (ht : (pc : Int) + off = (tgt : Int)) (kt : 0 ≤ x → J E M d Qp bc bs tgt vs st h I L) (kf : ¬ 0 ≤ x → J E M d Qp bc bs (pc + 3) vs st h I L) : J E M d Qp bc bs pc vs (.int x :: st) h I L := by
  intro p e R s m args below meth c Z H locs cells slots ls h1 h2 h3 h4 h5 h6 h7 h8 h9 h10
  exact lv_if_ge h1.1 h1.2.1 hd ht (fun q => kt q p e R s m args below meth c Z H locs cells slots ls h1 h2 h3 h4 h5 h6 h7 h8 h9 h10) (fun q => kf q p e R s m args below meth c Z H locs cells slots ls h1 h2 h3 h4 h5 h6 h7 h8 h9 h10)
theorem J.if_gt {x : Int32} {off : Int} (tgt : Nat) (hd : decode M.2.1 pc = .ok (.ifCond .gt off, 3)) (ht : (pc : Int) + off = (tgt : Int)) (kt : 0 < x → J E M d Qp bc bs tgt vs st h I L) (kf : ¬ 0 < x → J E M d Qp bc bs (pc + 3) vs st h I L) : J E M d Qp bc bs pc vs (.int x :: st) h I L := by
  intro p e R s m args below meth c Z H locs cells slots ls h1 h2 h3 h4 h5 h6 h7 h8 h9 h10
  exact lv_if_gt h1.1 h1.2.1 hd ht (fun q => kt q p e R s m args below meth c Z H locs cells slots ls h1 h2 h3 h4 h5 h6 h7 h8 h9 h10) (fun q => kf q p e R s m args below meth c Z H locs cells slots ls h1 h2 h3 h4 h5 h6 h7 h8 h9 h10)
theorem J.if_le {x : Int32} {off : Int} (tgt : Nat) (hd : decode M.2.1 pc = .ok (.ifCond .le off, 3)) (ht : (pc : Int) + off = (tgt : Int)) (kt : x ≤ 0 → J E M d Qp bc bs tgt vs st h I L) (kf : ¬ x ≤ 0 → J E M d Qp bc bs (pc + 3) vs st h I L) : J E M d Qp bc bs pc vs (.int x :: st) h I L := by
  intro p e R s m args below meth c Z H locs cells slots ls h1 h2 h3 h4 h5 h6 h7 h8 h9 h10
  exact lv_if_le h1.1 h1.2.1 hd ht (fun q => kt q p e R s m args below meth c Z H locs cells slots ls h1 h2 h3 h4 h5 h6 h7 h8 h9 h10) (fun q => kf q p e R s m args below meth c Z H locs cells slots ls h1 h2 h3 h4 h5 h6 h7 h8 h9 h10)
theorem J.ic_eq {x y : Int32} {off : Int} (tgt : Nat) (hd : decode M.2.1 pc = .ok (.if_icmp .eq off, 3)) (ht : (pc : Int) + off = (tgt : Int)) (kt : x = y → J E M d Qp bc bs tgt vs st h I L) (kf : ¬ x = y → J E M d Qp bc bs (pc + 3) vs st h I L) : J E M d Qp bc bs pc vs (.int y :: .int x :: st) h I L := by
  intro p e R s m args below meth c Z H locs cells slots ls h1 h2 h3 h4 h5 h6 h7 h8 h9 h10
  exact lv_icmp_eq h1.1 h1.2.1 hd ht (fun q => kt q p e R s m args below meth c Z H locs cells slots ls h1 h2 h3 h4 h5 h6 h7 h8 h9 h10) (fun q => kf q p e R s m args below meth c Z H locs cells slots ls h1 h2 h3 h4 h5 h6 h7 h8 h9 h10)
theorem J.ic_ne {x y : Int32} {off : Int} (tgt : Nat) (hd : decode M.2.1 pc = .ok (.if_icmp .ne off, 3)) (ht : (pc : Int) + off = (tgt : Int)) (kt : ¬ x = y → J E M d Qp bc bs tgt vs st h I L) (kf : x = y → J E M d Qp bc bs (pc + 3) vs st h I L) : J E M d Qp bc bs pc vs (.int y :: .int x :: st) h I L := by
  intro p e R s m args below meth c Z H locs cells slots ls h1 h2 h3 h4 h5 h6 h7 h8 h9 h10
  exact lv_icmp_ne h1.1 h1.2.1 hd ht (fun q => kt q p e R s m args below meth c Z H locs cells slots ls h1 h2 h3 h4 h5 h6 h7 h8 h9 h10) (fun q => kf q p e R s m args below meth c Z H locs cells slots ls h1 h2 h3 h4 h5 h6 h7 h8 h9 h10)
theorem J.ic_lt {x y : Int32} {off : Int} (tgt : Nat) (hd : decode M.2.1 pc = .ok (.if_icmp .lt off, 3)) (ht : (pc : Int) + off = (tgt : Int)) (kt : x < y → J E M d Qp bc bs tgt vs st h I L) (kf : ¬ x < y → J E M d Qp bc bs (pc + 3) vs st h I L) : J E M d Qp bc bs pc vs (.int y :: .int x :: st) h I L := by
  intro p e R s m args below meth c Z H locs cells slots ls h1 h2 h3 h4 h5 h6 h7 h8 h9 h10
  exact lv_icmp_lt h1.1 h1.2.1 hd ht (fun q => kt q p e R s m args below meth c Z H locs cells slots ls h1 h2 h3 h4 h5 h6 h7 h8 h9 h10) (fun q => kf q p e R s m args below meth c Z H locs cells slots ls h1 h2 h3 h4 h5 h6 h7 h8 h9 h10)
theorem J.ic_ge {x y : Int32} {off : Int} (tgt : Nat) (hd : decode M.2.1 pc = .ok (.if_icmp .ge off, 3)) (ht : (pc : Int) + off = (tgt : Int)) (kt : y ≤ x → J E M d Qp bc bs tgt vs st h I L) (kf : ¬ y ≤ x → J E M d Qp bc bs (pc + 3) vs st h I L) : J E M d Qp bc bs pc vs (.int y :: .int x :: st) h I L := by
  intro p e R s m args below meth c Z H locs cells slots ls h1 h2 h3 h4 h5 h6 h7 h8 h9 h10
  exact lv_icmp_ge h1.1 h1.2.1 hd ht (fun q => kt q p e R s m args below meth c Z H locs cells slots ls h1 h2 h3 h4 h5 h6 h7 h8 h9 h10) (fun q => kf q p e R s m args below meth c Z H locs cells slots ls h1 h2 h3 h4 h5 h6 h7 h8 h9 h10)
theorem J.ic_gt {x y : Int32} {off : Int} (tgt : Nat) (hd : decode M.2.1 pc = .ok (.if_icmp .gt off, 3)) (ht : (pc : Int) + off = (tgt : Int)) (kt : y < x → J E M d Qp bc bs tgt vs st h I L) (kf : ¬ y < x → J E M d Qp bc bs (pc + 3) vs st h I L) : J E M d Qp bc bs pc vs (.int y :: .int x :: st) h I L := by
  intro p e R s m args below meth c Z H locs cells slots ls h1 h2 h3 h4 h5 h6 h7 h8 h9 h10
  exact lv_icmp_gt h1.1 h1.2.1 hd ht (fun q => kt q p e R s m args below meth c Z H locs cells slots ls h1 h2 h3 h4 h5 h6 h7 h8 h9 h10) (fun q => kf q p e R s m args below meth c Z H locs cells slots ls h1 h2 h3 h4 h5 h6 h7 h8 h9 h10)
theorem J.ic_le {x y : Int32} {off : Int} (tgt : Nat) (hd : decode M.2.1 pc = .ok (.if_icmp .le off, 3)) (ht : (pc : Int) + off = (tgt : Int)) (kt : x ≤ y → J E M d Qp bc bs tgt vs st h I L) (kf : ¬ x ≤ y → J E M d Qp bc bs (pc + 3) vs st h I L) : J E M d Qp bc bs pc vs (.int y :: .int x :: st) h I L := by
  intro p e R s m args below meth c Z H locs cells slots ls h1 h2 h3 h4 h5 h6 h7 h8 h9 h10
  exact lv_icmp_le h1.1 h1.2.1 hd ht (fun q => kt q p e R s m args below meth c Z H locs cells slots ls h1 h2 h3 h4 h5 h6 h7 h8 h9 h10) (fun q => kf q p e R s m args below meth c Z H locs cells slots ls h1 h2 h3 h4 h5 h6 h7 h8 h9 h10)
theorem J.ifnull {x : Nat} {off : Int} (hd : decode M.2.1 pc = .ok (.ifnull off, 3)) (k : J E M d Qp bc bs (pc + 3) vs st h I L) : J E M d Qp bc bs pc vs (.ref x :: st) h I L :=
  J.go (fun p e R s m args below meth c Z H locs cells slots ls F _ _ _ hl k => lv_ifnull F.1 F.2.1 hd k) k
theorem J.ifnullN {off : Int} (tgt : Nat) (hd : decode M.2.1 pc = .ok (.ifnull off, 3)) (ht : (pc : Int) + off = (tgt : Int)) (k : J E M d Qp bc bs tgt vs st h I L) : J E M d Qp bc bs pc vs (.null :: st) h I L :=
  J.go (fun p e R s m args below meth c Z H locs cells slots ls F _ _ _ hl k => lv_ifnullN F.1 F.2.1 hd ht k) k
theorem J.ifnonnull {x : Nat} {off : Int} (tgt : Nat) (hd : decode M.2.1 pc = .ok (.ifnonnull off, 3)) (ht : (pc : Int) + off = (tgt : Int)) (k : J E M d Qp bc bs tgt vs st h I L) : J E M d Qp bc bs pc vs (.ref x :: st) h I L :=
  J.go (fun p e R s m args below meth c Z H locs cells slots ls F _ _ _ hl k => lv_ifnonnull F.1 F.2.1 hd ht k) k
theorem J.ifnonnullN {off : Int} (hd : decode M.2.1 pc = .ok (.ifnonnull off, 3)) (k : J E M d Qp bc bs (pc + 3) vs st h I L) : J E M d Qp bc bs pc vs (.null :: st) h I L :=
  J.go (fun p e R s m args below meth c Z H locs cells slots ls F _ _ _ hl k => lv_ifnonnullN F.1 F.2.1 hd k) k
theorem J.lookup {dflt : Int} {ps : Array (Int × Int)} {len : Nat} {x : Int32} {off : Int} (tgt : Nat) (hd : decode M.2.1 pc = .ok (.lookupswitch dflt ps, len)) (hp : (ps.toList.zip (ps.toList.drop 1)).all (fun (a, next) => a.1 < next.1) = true) (ho : Op.lookupswitch.offset ps.toList dflt x.toInt = off) (ht : (pc : Int) + off = (tgt : Int)) (k : J E M d Qp bc bs tgt vs st h I L) : J E M d Qp bc bs pc vs (.int x :: st) h I L :=
  J.go (fun p e R s m args below meth c Z H locs cells slots ls F _ _ _ hl k => lv_lookup F.1 F.2.1 hd hp ho ht k) k
theorem J.tableIn {dflt lo hi : Int} {offs : Array Int} {len : Nat} {x : Int32} {off : Int} (tgt : Nat) (hd : decode M.2.1 pc = .ok (.tableswitch dflt lo hi offs, len)) (h1 : ¬ x.toInt < lo) (h2 : ¬ hi < x.toInt) (ho : offs[(x.toInt - lo).toNat]? = some off) (ht : (pc : Int) + off = (tgt : Int)) (k : J E M d Qp bc bs tgt vs st h I L) : J E M d Qp bc bs pc vs (.int x :: st) h I L :=
  J.go (fun p e R s m args below meth c Z H locs cells slots ls F _ _ _ hl k => lv_tableIn F.1 F.2.1 hd h1 h2 ho ht k) k
theorem J.istore_n {q : Fin 4} {i : Nat} {x : Int32} {vs' : List (Option Value)} (hd : decode M.2.1 pc = .ok (.istore_n q, 1)) (hi : (q : Nat) = i) (hn : i < M.2.2.1) (hv : lset vs i (.int x) = vs') (k : J E M d Qp bc bs (pc + 1) vs' st h I L) : J E M d Qp bc bs pc vs (.int x :: st) h I L := by
  intro p e R s m args below meth c Z H locs cells slots ls h1 h2 h3 h4 h5 h6 h7 h8 h9 h10
  refine lv_istore_n h1.1 h1.2.1 hd hi h10 hn rfl (fun ls' hl => ?_)
  exact k p e R s m args below meth c Z H locs cells slots ls' h1 h2 h3 h4 h5 h6 h7 h8 h9 (LV.of hl (lset_mem hv))
theorem J.istore {i : Nat} {x : Int32} {vs' : List (Option Value)} (hd : decode M.2.1 pc = .ok (.istore i, 2)) (hn : i < M.2.2.1) (hv : lset vs i (.int x) = vs') (k : J E M d Qp bc bs (pc + 2) vs' st h I L) : J E M d Qp bc bs pc vs (.int x :: st) h I L := by
  intro p e R s m args below meth c Z H locs cells slots ls h1 h2 h3 h4 h5 h6 h7 h8 h9 h10
  refine lv_istore h1.1 h1.2.1 hd h10 hn rfl (fun ls' hl => ?_)
  exact k p e R s m args below meth c Z H locs cells slots ls' h1 h2 h3 h4 h5 h6 h7 h8 h9 (LV.of hl (lset_mem hv))
theorem J.astore_n {q : Fin 4} {i : Nat} {x : Nat} {vs' : List (Option Value)} (hd : decode M.2.1 pc = .ok (.astore_n q, 1)) (hi : (q : Nat) = i) (hn : i < M.2.2.1) (hv : lset vs i (.ref x) = vs') (k : J E M d Qp bc bs (pc + 1) vs' st h I L) : J E M d Qp bc bs pc vs (.ref x :: st) h I L := by
  intro p e R s m args below meth c Z H locs cells slots ls h1 h2 h3 h4 h5 h6 h7 h8 h9 h10
  refine lv_astore_n h1.1 h1.2.1 hd hi h10 hn rfl (fun ls' hl => ?_)
  exact k p e R s m args below meth c Z H locs cells slots ls' h1 h2 h3 h4 h5 h6 h7 h8 h9 (LV.of hl (lset_mem hv))
theorem J.astore {i : Nat} {x : Nat} {vs' : List (Option Value)} (hd : decode M.2.1 pc = .ok (.astore i, 2)) (hn : i < M.2.2.1) (hv : lset vs i (.ref x) = vs') (k : J E M d Qp bc bs (pc + 2) vs' st h I L) : J E M d Qp bc bs pc vs (.ref x :: st) h I L := by
  intro p e R s m args below meth c Z H locs cells slots ls h1 h2 h3 h4 h5 h6 h7 h8 h9 h10
  refine lv_astore h1.1 h1.2.1 hd h10 hn rfl (fun ls' hl => ?_)
  exact k p e R s m args below meth c Z H locs cells slots ls' h1 h2 h3 h4 h5 h6 h7 h8 h9 (LV.of hl (lset_mem hv))
theorem J.astore_nN {q : Fin 4} {i : Nat}  {vs' : List (Option Value)} (hd : decode M.2.1 pc = .ok (.astore_n q, 1)) (hi : (q : Nat) = i) (hn : i < M.2.2.1) (hv : lset vs i (.null) = vs') (k : J E M d Qp bc bs (pc + 1) vs' st h I L) : J E M d Qp bc bs pc vs (.null :: st) h I L := by
  intro p e R s m args below meth c Z H locs cells slots ls h1 h2 h3 h4 h5 h6 h7 h8 h9 h10
  refine lv_astore_nN h1.1 h1.2.1 hd hi h10 hn rfl (fun ls' hl => ?_)
  exact k p e R s m args below meth c Z H locs cells slots ls' h1 h2 h3 h4 h5 h6 h7 h8 h9 (LV.of hl (lset_mem hv))
theorem J.astoreN {i : Nat}  {vs' : List (Option Value)} (hd : decode M.2.1 pc = .ok (.astore i, 2)) (hn : i < M.2.2.1) (hv : lset vs i (.null) = vs') (k : J E M d Qp bc bs (pc + 2) vs' st h I L) : J E M d Qp bc bs pc vs (.null :: st) h I L := by
  intro p e R s m args below meth c Z H locs cells slots ls h1 h2 h3 h4 h5 h6 h7 h8 h9 h10
  refine lv_astoreN h1.1 h1.2.1 hd h10 hn rfl (fun ls' hl => ?_)
  exact k p e R s m args below meth c Z H locs cells slots ls' h1 h2 h3 h4 h5 h6 h7 h8 h9 (LV.of hl (lset_mem hv))
theorem J.iinc {i : Nat} {n : Int} {x v : Int32} {vs' : List (Option Value)} (hd : decode M.2.1 pc = .ok (.iinc i n, 3)) (hx : vs[i]? = some (some (.int x))) (hv : x + Int32.ofInt n = v) (hn : i < M.2.2.1) (hs : lset vs i (.int v) = vs') (k : J E M d Qp bc bs (pc + 3) vs' st h I L) : J E M d Qp bc bs pc vs st h I L := by
  intro p e R s m args below meth c Z H locs cells slots ls h1 h2 h3 h4 h5 h6 h7 h8 h9 h10
  obtain ⟨k0, hk0⟩ := List.getElem?_of_mem (toA_mem.mpr ⟨i, (Nat.zero_add i).symm, hx⟩ : (i, Value.int x) ∈ toA 0 vs)
  refine lv_iinc h1.1 h1.2.1 hd h10 (k := k0) hk0 hv hn rfl (fun ls' hl => ?_)
  exact k p e R s m args below meth c Z H locs cells slots ls' h1 h2 h3 h4 h5 h6 h7 h8 h9 (LV.of hl (lset_mem hs))
theorem J.lstore {i : Nat} {x : Int64} {vs' : List (Option Value)} (hd : decode M.2.1 pc = .ok (.lstore i, 2)) (hn : i + 1 < M.2.2.1) (hv : lset2 vs i (.long x) = vs') (k : J E M d Qp bc bs (pc + 2) vs' st h I L) : J E M d Qp bc bs pc vs (.long x :: st) h I L := by
  intro p e R s m args below meth c Z H locs cells slots ls h1 h2 h3 h4 h5 h6 h7 h8 h9 h10
  refine lv_lstore h1.1 h1.2.1 hd h10 hn rfl (fun ls' hl => ?_)
  exact k p e R s m args below meth c Z H locs cells slots ls' h1 h2 h3 h4 h5 h6 h7 h8 h9 (LV.of hl (lset2_mem hv))
end JR2
