/-! making -/
def MK (h0 h : mS) (b : Nat) (ks : List (Nat × Nat)) (rs ar : List (Nat × Nat × Nat)) : Prop :=
  h.2.2 = b + ks.length ∧ (∀ j q, ks[j]? = some q → h.1 (b + j) = q) ∧ (∀ q ∈ rs, h.2.1 (b + q.1) q.2.1 = some (b + q.2.2)) ∧ (∀ q ∈ ar, h.2.1 (b + q.1) q.2.1 = some q.2.2) ∧ (∀ a, a < b → h.1 a = h0.1 a ∧ h.2.1 a = h0.2.1 a) ∧
  (∀ a i, b ≤ a → (∀ q ∈ rs, ¬ (b + q.1 = a ∧ q.2.1 = i)) → (∀ q ∈ ar, ¬ (b + q.1 = a ∧ q.2.1 = i)) → h.2.1 a i = none)
def frR (l : List (Nat × Nat × Nat)) (j i : Nat) : Bool := l.all fun q => !(q.1 == j && q.2.1 == i)
theorem frR_ok {l : List (Nat × Nat × Nat)} {j i : Nat} (h : frR l j i = true) {q : Nat × Nat × Nat} (hq : q ∈ l) : ¬ (q.1 = j ∧ q.2.1 = i) := by
  have := List.all_eq_true.mp h q hq
  simp at this
  intro e
  rcases this with z | z
  · exact z e.1
  · exact z e.2
section MKS
variable {h0 h : mS} {b : Nat} {ks : List (Nat × Nat)} {rs ar : List (Nat × Nat × Nat)}
theorem MK.lt (m : MK h0 h b ks rs ar) (j : Nat) {q : Nat × Nat} (hj : ks[j]? = some q) : b + j < h.2.2 := by
  have := (List.getElem?_eq_some_iff.mp hj).1
  rw [m.1]; omega
theorem MK.kd (m : MK h0 h b ks rs ar) (j : Nat) {q : Nat × Nat} (hj : ks[j]? = some q) : h.1 (b + j) = q := m.2.1 j q hj
theorem MK.rf (m : MK h0 h b ks rs ar) (q : Nat × Nat × Nat) (hq : q ∈ rs) : h.2.1 (b + q.1) q.2.1 = some (b + q.2.2) := m.2.2.1 q hq
theorem MK.nw {k n : Nat} (m : MK h0 h b ks rs ar) : MK h0 (nw h k n) b (ks ++ [(k, n)]) rs ar := by
  obtain ⟨m1, m2, m3, m4, m5, m6⟩ := m
  refine ⟨by show h.2.2 + 1 = _; rw [m1, List.length_append]; rfl, fun j q hj => ?_, m3, m4, fun a ha => ⟨?_, (m5 a ha).2⟩, m6⟩
  · show (if b + j = h.2.2 then (k, n) else h.1 (b + j)) = q
    by_cases c : j < ks.length
    · rw [if_neg (by omega)]
      rw [List.getElem?_append_left c] at hj
      exact m2 j q hj
    · have hl := (List.getElem?_eq_some_iff.mp hj).1
      rw [List.length_append] at hl
      have e : j = ks.length := by simp at hl; omega
      subst e
      rw [if_pos m1.symm]
      simp at hj
      exact hj
  · show (if a = h.2.2 then (k, n) else h.1 a) = _
    rw [if_neg (by omega)]; exact (m5 a ha).1
theorem MK.put {j i t : Nat} (m : MK h0 h b ks rs ar) (f1 : frR rs j i = true) (f2 : frR ar j i = true) : MK h0 (uRh h (b + j) i (some (b + t))) b ks ((j, i, t) :: rs) ar := by
  obtain ⟨m1, m2, m3, m4, m5, m6⟩ := m
  have ex : ∀ a k, (uRh h (b + j) i (some (b + t))).2.1 a k = if a = b + j ∧ k = i then some (b + t) else h.2.1 a k := fun a k => by
    show uR h.2.1 (b + j) i (some (b + t)) a k = _
    unfold uR
    by_cases c : a = b + j
    · by_cases c2 : k = i <;> simp [c, c2]
    · simp [c]
  refine ⟨m1, m2, fun q hq => ?_, fun q hq => ?_, fun a ha => ⟨(m5 a ha).1, ?_⟩, fun a k h1 h2 h3 => ?_⟩
  · rw [ex]
    rcases List.mem_cons.mp hq with rfl | hq
    · rw [if_pos ⟨rfl, rfl⟩]
    · rw [if_neg (fun e => frR_ok f1 hq ⟨by omega, e.2⟩)]; exact m3 q hq
  · rw [ex, if_neg (fun e => frR_ok f2 hq ⟨by omega, e.2⟩)]; exact m4 q hq
  · funext k; rw [ex, if_neg (by omega)]; rw [(m5 a ha).2]
  · rw [ex, if_neg (fun e => h2 (j, i, t) (List.mem_cons_self ..) ⟨e.1.symm, e.2.symm⟩)]
    exact m6 a k h1 (fun q hq => h2 q (List.mem_cons_of_mem _ hq)) h3
theorem MK.puta {j i t : Nat} (m : MK h0 h b ks rs ar) (f1 : frR rs j i = true) (f2 : frR ar j i = true) : MK h0 (uRh h (b + j) i (some t)) b ks rs ((j, i, t) :: ar) := by
  obtain ⟨m1, m2, m3, m4, m5, m6⟩ := m
  have ex : ∀ a k, (uRh h (b + j) i (some t)).2.1 a k = if a = b + j ∧ k = i then some t else h.2.1 a k := fun a k => by
    show uR h.2.1 (b + j) i (some t) a k = _
    unfold uR
    by_cases c : a = b + j
    · by_cases c2 : k = i <;> simp [c, c2]
    · simp [c]
  refine ⟨m1, m2, fun q hq => ?_, fun q hq => ?_, fun a ha => ⟨(m5 a ha).1, ?_⟩, fun a k h1 h2 h3 => ?_⟩
  · rw [ex, if_neg (fun e => frR_ok f1 hq ⟨by omega, e.2⟩)]; exact m3 q hq
  · rw [ex]
    rcases List.mem_cons.mp hq with rfl | hq
    · rw [if_pos ⟨rfl, rfl⟩]
    · rw [if_neg (fun e => frR_ok f2 hq ⟨by omega, e.2⟩)]; exact m4 q hq
  · funext k; rw [ex, if_neg (by omega)]; rw [(m5 a ha).2]
  · rw [ex, if_neg (fun e => h3 (j, i, t) (List.mem_cons_self ..) ⟨e.1.symm, e.2.symm⟩)]
    exact m6 a k h1 h2 (fun q hq => h3 q (List.mem_cons_of_mem _ hq))
/-- the makings of a part are the whole's -/
theorem MK.app {h' : mS} {l : Nat} {ks' ks2 : List (Nat × Nat)} {rs' ar' rs2 : List (Nat × Nat × Nat)} (m : MK h0 h b ks rs []) (m' : MK h h' (b + l) ks' rs' ar') (hl : ks.length = l + 1) (hf : (rs.all fun q => decide (q.1 < l)) = true) (e1 : ks.take l ++ ks' = ks2) (e2 : (ar'.map fun q => (l + q.1, q.2.1, q.2.2 - b)) ++ ((rs'.map fun q => (l + q.1, q.2.1, l + q.2.2)) ++ rs) = rs2) (e3 : ∀ q ∈ ar', b ≤ q.2.2) : MK h0 h' b ks2 rs2 [] := by
  obtain ⟨m1, m2, m3, m4, m5, m6⟩ := m
  obtain ⟨n1, n2, n3, n4, n5, n6⟩ := m'
  have hmem : ∀ q ∈ rs2, (∃ p ∈ ar', q = (l + p.1, p.2.1, p.2.2 - b)) ∨ (∃ p ∈ rs', q = (l + p.1, p.2.1, l + p.2.2)) ∨ q ∈ rs := fun q hq => by
    rw [← e2] at hq
    rcases List.mem_append.mp hq with hq | hq
    · obtain ⟨p, p1, p2⟩ := List.mem_map.mp hq
      exact Or.inl ⟨p, p1, p2.symm⟩
    · rcases List.mem_append.mp hq with hq | hq
      · obtain ⟨p, p1, p2⟩ := List.mem_map.mp hq
        exact Or.inr (Or.inl ⟨p, p1, p2.symm⟩)
      · exact Or.inr (Or.inr hq)
  have hlt : ∀ q ∈ rs, q.1 < l := fun q hq => by simpa using List.all_eq_true.mp hf q hq
  refine ⟨?_, fun j q hj => ?_, fun q hq => ?_, fun q hq => (by cases hq), fun a ha => ?_, fun a i h1 h2 _ => ?_⟩
  · rw [← e1, List.length_append, List.length_take, n1]; omega
  · rw [← e1] at hj
    by_cases c : j < l
    · rw [List.getElem?_append_left (by rw [List.length_take]; omega), List.getElem?_take, if_pos c] at hj
      rw [(n5 (b + j) (by omega)).1]; exact m2 j q hj
    · rw [List.getElem?_append_right (by rw [List.length_take]; omega), List.length_take, Nat.min_eq_left (by omega)] at hj
      have := n2 (j - l) q hj
      rw [show b + l + (j - l) = b + j by omega] at this
      exact this
  · rcases hmem q hq with ⟨p, p1, rfl⟩ | ⟨p, p1, rfl⟩ | hq
    · have := n4 p p1
      have hb := e3 p p1
      show h'.2.1 (b + (l + p.1)) p.2.1 = some (b + (p.2.2 - b))
      rw [show b + (l + p.1) = b + l + p.1 by omega, this]; congr 1; omega
    · have := n3 p p1
      show h'.2.1 (b + (l + p.1)) p.2.1 = some (b + (l + p.2.2))
      rw [show b + (l + p.1) = b + l + p.1 by omega, this]; congr 1; omega
    · rw [(n5 (b + q.1) (by have := hlt q hq; omega)).2]; exact m3 q hq
  · rw [(n5 a (by omega)).1, (n5 a (by omega)).2]; exact m5 a ha
  · by_cases c : a < b + l
    · rw [(n5 a c).2]
      exact m6 a i h1 (fun q hq => h2 q (by rw [← e2]; exact List.mem_append_right _ (List.mem_append_right _ hq))) (fun q hq => by cases hq)
    · refine n6 a i (by omega) (fun q hq e => ?_) (fun q hq e => ?_)
      · refine h2 (l + q.1, q.2.1, l + q.2.2) (by rw [← e2]; exact List.mem_append_right _ (List.mem_append_left _ (List.mem_map.mpr ⟨q, hq, rfl⟩))) ⟨?_, e.2⟩
        show b + (l + q.1) = a
        omega
      · refine h2 (l + q.1, q.2.1, q.2.2 - b) (by rw [← e2]; exact List.mem_append_left _ (List.mem_map.mpr ⟨q, hq, rfl⟩)) ⟨?_, e.2⟩
        show b + (l + q.1) = a
        omega
end MKS
def Zr (h : mS) (I : mI) : Prop := ∀ a, h.2.2 ≤ a → (∀ j, I a j = 0) ∧ ∀ j, h.2.1 a j = none
section MKJ
variable {E : Envt} {M : Mth} {d : Nat} {Qp : Pst} {bc bs pc : Nat} {vs : List (Option Value)} {st : List Value} {h0 h : mS} {I : mI} {L : mL} {b : Nat} {ks : List (Nat × Nat)} {rs ar : List (Nat × Nat × Nat)}
theorem J.zr (k : Zr h I → J E M d Qp bc bs pc vs st h I L) : J E M d Qp bc bs pc vs st h I L := by
  intro p e R s m args below meth c Z H locs cells slots ls g1 g2 g3 h4 h5 h6 h7 h8 h9 h10
  exact k (fun a ha => ⟨(h6.2.2 a ha).1, (h6.2.2 a ha).2.2⟩) p e R s m args below meth c Z H locs cells slots ls g1 g2 g3 h4 h5 h6 h7 h8 h9 h10
theorem mk_new (m : MK h0 h b ks rs ar) {index ci N l : Nat} {C : String} {T : u_T} {ks' : List (Nat × Nat)} (hl : ks.length = l) (hks : ks ++ [(ci, 0)] = ks') (hC : ClsOK ci C T N) (hf : ∀ i, i < N → tyOf ci i ≠ .float ∧ tyOf ci i ≠ .double) (hcl : Cond.classLink M.1.cls index C ∈ gT) (hin : Cond.instantiable C N ∈ gT) (hini : Cond.initialized C ∈ gT) (hd : decode M.2.1 pc = .ok (.new index, 3))
    (k : ∀ h', MK h0 h' b ks' rs ar → J E M d Qp bc bs (pc + 3) vs (.ref (eB E + (b + l)) :: st) h' I L) : J E M d Qp (bc + 1) (bs + N) pc vs st h I L := by
  refine J.new hC hf hcl hin hini hd (fun _ _ _ => ?_)
  have e : h.2.2 = b + l := by rw [m.1, hl]
  have q := k (nw h ci 0) (by rw [← hks]; exact m.nw)
  rw [← e] at q
  exact q
theorem mk_I (m : MK h0 h b ks rs ar) {N l : Nat} {n : Int32} {ks' : List (Nat × Nat)} (hl : ks.length = l) (hks : ks ++ [(14, N)] = ks') (hn : ¬ n < 0) (hN : n.toNatClampNeg = N) (hb : N * 4 ≤ 536870912) (hd : decode M.2.1 pc = .ok (.newarray .int, 2))
    (k : ∀ h', MK h0 h' b ks' rs ar → J E M d Qp bc bs (pc + 2) vs (.ref (eB E + (b + l)) :: st) h' I L) : J E M d Qp (bc + 1) (bs + N) pc vs (.int n :: st) h I L := by
  refine J.newI aI hn hN hb hd (fun _ _ _ => ?_)
  have e : h.2.2 = b + l := by rw [m.1, hl]
  have q := k (nw h 14 N) (by rw [← hks]; exact m.nw)
  rw [← e] at q
  exact q
theorem mk_Z (m : MK h0 h b ks rs ar) {N l : Nat} {n : Int32} {ks' : List (Nat × Nat)} (hl : ks.length = l) (hks : ks ++ [(16, N)] = ks') (hn : ¬ n < 0) (hN : n.toNatClampNeg = N) (hb : N * 1 ≤ 536870912) (hd : decode M.2.1 pc = .ok (.newarray .boolean, 2))
    (k : ∀ h', MK h0 h' b ks' rs ar → J E M d Qp bc bs (pc + 2) vs (.ref (eB E + (b + l)) :: st) h' I L) : J E M d Qp (bc + 1) (bs + N) pc vs (.int n :: st) h I L := by
  refine J.newZ aZ hn hN hb hd (fun _ _ _ => ?_)
  have e : h.2.2 = b + l := by rw [m.1, hl]
  have q := k (nw h 16 N) (by rw [← hks]; exact m.nw)
  rw [← e] at q
  exact q
theorem mk_B (m : MK h0 h b ks rs ar) {N l : Nat} {n : Int32} {ks' : List (Nat × Nat)} (hl : ks.length = l) (hks : ks ++ [(13, N)] = ks') (hn : ¬ n < 0) (hN : n.toNatClampNeg = N) (hb : N * 1 ≤ 536870912) (hd : decode M.2.1 pc = .ok (.newarray .byte, 2))
    (k : ∀ h', MK h0 h' b ks' rs ar → J E M d Qp bc bs (pc + 2) vs (.ref (eB E + (b + l)) :: st) h' I L) : J E M d Qp (bc + 1) (bs + N) pc vs (.int n :: st) h I L := by
  refine J.newB aBy hn hN hb hd (fun _ _ _ => ?_)
  have e : h.2.2 = b + l := by rw [m.1, hl]
  have q := k (nw h 13 N) (by rw [← hks]; exact m.nw)
  rw [← e] at q
  exact q
theorem mk_L (m : MK h0 h b ks rs ar) {N l : Nat} {n : Int32} {ks' : List (Nat × Nat)} (hl : ks.length = l) (hks : ks ++ [(15, N)] = ks') (hn : ¬ n < 0) (hN : n.toNatClampNeg = N) (hb : N * 8 ≤ 536870912) (hd : decode M.2.1 pc = .ok (.newarray .long, 2))
    (k : ∀ h', MK h0 h' b ks' rs ar → J E M d Qp bc bs (pc + 2) vs (.ref (eB E + (b + l)) :: st) h' I L) : J E M d Qp (bc + 1) (bs + N) pc vs (.int n :: st) h I L := by
  refine J.newL aLo hn hN hb hd (fun _ _ _ => ?_)
  have e : h.2.2 = b + l := by rw [m.1, hl]
  have q := k (nw h 15 N) (by rw [← hks]; exact m.nw)
  rw [← e] at q
  exact q
theorem mk_T (m : MK h0 h b ks rs ar) {index N l : Nat} {n : Int32} {ks' : List (Nat × Nat)} (hl : ks.length = l) (hks : ks ++ [(18, N)] = ks') (hcl : Cond.classLink M.1.cls index RX10 ∈ gT) (hn : ¬ n < 0) (hN : n.toNatClampNeg = N) (hb : N * 4 ≤ 536870912) (hd : decode M.2.1 pc = .ok (.anewarray index, 3))
    (k : ∀ h', MK h0 h' b ks' rs ar → J E M d Qp bc bs (pc + 3) vs (.ref (eB E + (b + l)) :: st) h' I L) : J E M d Qp (bc + 1) (bs + N) pc vs (.int n :: st) h I L := by
  refine J.newT hcl hn hN hb hd (fun _ _ _ => ?_)
  have e : h.2.2 = b + l := by rw [m.1, hl]
  have q := k (nw h 18 N) (by rw [← hks]; exact m.nw)
  rw [← e] at q
  exact q
theorem mk_K (m : MK h0 h b ks rs ar) {index N l : Nat} {n : Int32} {ks' : List (Nat × Nat)} (hl : ks.length = l) (hks : ks ++ [(17, N)] = ks') (hcl : Cond.classLink M.1.cls index RX0 ∈ gT) (hn : ¬ n < 0) (hN : n.toNatClampNeg = N) (hb : N * 4 ≤ 536870912) (hd : decode M.2.1 pc = .ok (.anewarray index, 3))
    (k : ∀ h', MK h0 h' b ks' rs ar → J E M d Qp bc bs (pc + 3) vs (.ref (eB E + (b + l)) :: st) h' I L) : J E M d Qp (bc + 1) (bs + N) pc vs (.int n :: st) h I L := by
  refine J.newK hcl hn hN hb hd (fun _ _ _ => ?_)
  have e : h.2.2 = b + l := by rw [m.1, hl]
  have q := k (nw h 17 N) (by rw [← hks]; exact m.nw)
  rw [← e] at q
  exact q
theorem mk_put (m : MK h0 h b ks rs ar) {index ci i j n t : Nat} (fl : FLf M.1.cls index ci i) (hi : M.1.name = "<init>") (ht : rTy (tyOf ci i) = true) (hd : decode M.2.1 pc = .ok (.putfield index, 3)) (hk : ks[j]? = some (ci, n)) (f1 : frR rs j i = true) (f2 : frR ar j i = true)
    (k : ∀ h', MK h0 h' b ks ((j, i, t) :: rs) ar → J E M d Qp bc bs (pc + 3) vs st h' I L) : J E M d Qp bc bs pc vs (.ref (eB E + (b + t)) :: .ref (eB E + (b + j)) :: st) h I L :=
  J.putRf fl hi ht hd (m.lt j hk) (m.kd j hk) (k _ (m.put f1 f2))
theorem mk_puta (m : MK h0 h b ks rs ar) {index ci i j n t : Nat} (fl : FLf M.1.cls index ci i) (hi : M.1.name = "<init>") (ht : rTy (tyOf ci i) = true) (hd : decode M.2.1 pc = .ok (.putfield index, 3)) (hk : ks[j]? = some (ci, n)) (f1 : frR rs j i = true) (f2 : frR ar j i = true)
    (k : ∀ h', MK h0 h' b ks rs ((j, i, t) :: ar) → J E M d Qp bc bs (pc + 3) vs st h' I L) : J E M d Qp bc bs pc vs (.ref (eB E + t) :: .ref (eB E + (b + j)) :: st) h I L :=
  J.putRf fl hi ht hd (m.lt j hk) (m.kd j hk) (k _ (m.puta f1 f2))
end MKJ
