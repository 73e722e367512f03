/-! the judgement of a walk (J) and of a call (CT) -/
def RetI (M : Mth) (pc : Nat) (v : Option Value) : Prop := match v with
  | none => decode M.2.1 pc = .ok (.return_, 1) ∧ M.2.2.2 = none
  | some (.int x) => decode M.2.1 pc = .ok (.ireturn, 1) ∧ ∃ ty, M.2.2.2 = some ty ∧ narrow ty (.int x) = .int x
  | some (.ref _) => decode M.2.1 pc = .ok (.areturn, 1) ∧ ∃ n, M.2.2.2 = some (.object n)
  | some .null => decode M.2.1 pc = .ok (.areturn, 1) ∧ ∃ n, M.2.2.2 = some (.object n)
  | some (.long _) => decode M.2.1 pc = .ok (.lreturn, 1) ∧ M.2.2.2 = some .long
  | _ => False
def Fx (E : Envt) (M : Mth) (p : Program) (s : State) (m : MethodId) (args : Array Value) (meth : Method) (c : Code) : Prop :=
  p.tables.exec = Jvm.exec ∧ c.code = M.2.1 ∧ c.maxLocals = M.2.2.1 ∧ s.vm.findClass M.1.cls = some m.cls ∧ (∀ w ∈ gT, w.before args s = true) ∧ meth.name = M.1.name ∧ eB E ≤ s.heap.size
def Rt (E : Envt) (M : Mth) (Qp : Pst) (p : Program) (e : Env) (R : Room) (s : State) (m : MethodId) (args : Array Value) (below : List Frame) (meth : Method) (c : Code) (Z : State → Prop) : Prop :=
  ∀ (v : Option Value) (h : mS) (I : mI) (L : mL) (H : Heap) (locs : List Loc) (cells slots : Nat) (ls : Array Slot) (pc : Nat), Qp v h I L → Hp E h I L H → va_S (fun q => eB E ≤ q) s.heap H locs → cells ≤ R.cells → slots ≤ R.slots → RetI M pc v →
    W p (eL E) e R s m args below meth c H locs cells slots Z (F0 m pc ls v.toList)
def J (E : Envt) (M : Mth) (d : Nat) (Qp : Pst) (bc bs pc : Nat) (vs : List (Option Value)) (st : List Value) (h : mS) (I : mI) (L : mL) : Prop :=
  ∀ (p : Program) (e : Env) (R : Room) (s : State) (m : MethodId) (args : Array Value) (below : List Frame) (meth : Method) (c : Code) (Z : State → Prop) (H : Heap) (locs : List Loc) (cells slots : Nat) (ls : Array Slot),
    Fx E M p s m args meth c → d ≤ R.frames → 64 * d ≤ R.locals → Rt E M Qp p e R s m args below meth c Z → Sf E s H → Hp E h I L H → va_S (fun q => eB E ≤ q) s.heap H locs → cells + bc ≤ R.cells → slots + bs ≤ R.slots → LV ls M.2.2.1 vs →
    W p (eL E) e R s m args below meth c H locs cells slots Z (F0 m pc ls st)
def Qcc (E : Envt) (Qp : Pst) : Array Value → State → Outcome → State → Prop := fun _ st o t => (∃ (v : Option Value) (h : mS) (I : mI) (L : mL), o = .returned v ∧ Qp v h I L ∧ Hp E h I L t.heap) ∧ va_F (fun q => eB E ≤ q) st t
def wsU (M : Mth) : List Cond := .code M.1 M.2.1 M.2.2.1 M.2.2.2 :: gT
def rmo (d bc bs : Nat) : Room := { frames := d, cells := bc, slots := bs, locals := 64 * d }
def Pcc (E : Envt) (av : List Value) (h : mS) (I : mI) (L : mL) : Array Value → State → Prop := va_Pc av (fun U => Hp E h I L U.heap ∧ Sf E U U.heap)
def CT (E : Envt) (M : Mth) (d bc bs : Nat) (av : List Value) (h : mS) (I : mI) (L : mL) (Qp : Pst) : Prop :=
  Met (eL E) M.1 (wsU M) (rmo d bc bs) (Pcc E av h I L) (Qcc E Qp) bc bs (fun q => eB E ≤ q)
theorem CT.mono {E : Envt} {M : Mth} {d bc bs : Nat} {av : List Value} {h : mS} {I : mI} {L : mL} {Q Q' : Pst} (hc : CT E M d bc bs av h I L Q) (hq : ∀ v h I L, Q v h I L → Q' v h I L) : CT E M d bc bs av h I L Q' := by
  intro p e h1 h2 h3 s m args below h4 h5 h6 h7
  obtain ⟨n, o, g1, g2, g3, ⟨⟨⟨v, h', I', L', e1, e2, e3⟩, g5⟩, g6⟩⟩ := hc p e h1 h2 h3 s m args below h4 h5 h6 h7
  exact ⟨n, o, g1, g2, g3, ⟨⟨v, h', I', L', e1, hq _ _ _ _ e2, e3⟩, g5⟩, g6⟩
theorem J.mono {E : Envt} {M : Mth} {d bc bs pc : Nat} {vs : List (Option Value)} {st : List Value} {h : mS} {I : mI} {L : mL} {Q Q' : Pst} (hc : J E M d Q bc bs pc vs st h I L) (hq : ∀ v h I L, Q v h I L → Q' v h I L) : J E M d Q' bc bs pc vs st h I L := by
  intro p e R s m args below meth c Z H locs cells slots ls h1 h2 h3 h4
  exact hc p e R s m args below meth c Z H locs cells slots ls h1 h2 h3 (fun v h I L H locs cells slots ls pc g => h4 v h I L H locs cells slots ls pc (hq _ _ _ _ g))
theorem Hp.size {E : Envt} {h : mS} {I : mI} {L : mL} {H : Heap} (hh : Hp E h I L H) : eB E ≤ H.size := by rw [hh.2.1]; omega
theorem CT.of {E : Envt} {M : Mth} {d bc bs : Nat} {av : List Value} {h : mS} {I : mI} {L : mL} {Qp : Pst} (hy : plainName M.1.cls = true) (vs : List (Option Value)) (hvs : entv M.2.2.1 av = vs) (hlen : (lg_sl av).length ≤ M.2.2.1)
    (hj : J E M d Qp bc bs 0 vs [] h I L) : CT E M d bc bs av h I L Qp := by
  refine Met.ofW (cc := M.2.1) (maxL := M.2.2.1) (ret := M.2.2.2) hy rfl ?_
  intro p e s m args below meth c s₁ B hml hv
  obtain ⟨rfl, hHp, hSf⟩ := hv
  have hx := B.exec
  have hb := B.bytes
  have hr := B.returns
  have hts := atoms_spec (ws := wsU M) B.pre
  have hown : s.vm.findClass M.1.cls = some m.cls := findClass_of_methodNamed B.named
  have hlocks := B.notSynchronized
  have hl := lv_entry av (n := M.2.2.1) hlen
  rw [lg_entry_eq]
  have hLV := entv_LV hl
  rw [hvs] at hLV
  refine hj p e (rmo d bc bs) s m _ below meth c _ s.heap [] 0 0 _ ⟨hx, hb, hml, hown, fun w hw => hts w (List.mem_cons_of_mem _ hw), (name_of_methodNamed B.named B.method).1, hHp.size⟩ (Nat.le_refl _) (Nat.le_refl _) ?_ hSf hHp va_S.rf (by show 0 + bc ≤ bc; omega) (by show 0 + bs ≤ bs; omega) hLV
  intro v h' I' L' H locs cells slots ls pc hq hHp' hS hc hs hret
  refine W.widen (k := bc) (n := bs) hc hs ?_
  match v, hret, hq with
  | none, hret, hq => exact W.vret hx hb (hr.trans hret.2) (fun t ht hW => ⟨⟨none, h', I', L', rfl, hq, by rw [ht]; exact hHp'⟩, hS.F ht⟩) hS.2.2 hret.1
  | some (.int x), hret, hq =>
    obtain ⟨h1, ty, h2, h3⟩ := hret
    exact W.zret hx hb (hr.trans h2) h3 (fun t ht hW => ⟨⟨_, h', I', L', rfl, hq, by rw [ht]; exact hHp'⟩, hS.F ht⟩) hS.2.2 h1
  | some (.ref a), hret, hq =>
    obtain ⟨h1, n, h2⟩ := hret
    exact W.aret hx hb (hr.trans h2) (Or.inl ⟨n, rfl⟩) (Or.inr ⟨a, rfl⟩) (fun t ht hW => ⟨⟨_, h', I', L', rfl, hq, by rw [ht]; exact hHp'⟩, hS.F ht⟩) hS.2.2 h1
  | some .null, hret, hq =>
    obtain ⟨h1, n, h2⟩ := hret
    exact W.aret hx hb (hr.trans h2) (Or.inl ⟨n, rfl⟩) (Or.inl rfl) (fun t ht hW => ⟨⟨_, h', I', L', rfl, hq, by rw [ht]; exact hHp'⟩, hS.F ht⟩) hS.2.2 h1
  | some (.long x), hret, hq =>
    exact W.lret hx hb (hr.trans hret.2) (fun t ht hW => ⟨⟨_, h', I', L', rfl, hq, by rw [ht]; exact hHp'⟩, hS.F ht⟩) hS.2.2 hret.1
section JR
variable {E : Envt} {M : Mth} {d : Nat} {Qp : Pst} {bc bs pc : Nat} {vs : List (Option Value)} {st : List Value} {h : mS} {I : mI} {L : mL}
theorem J.ret (v : Option Value) (hr : RetI M pc v) (hq : Qp v h I L) : J E M d Qp bc bs pc vs v.toList h I L := by
  intro p e R s m args below meth c Z H locs cells slots ls h1 h2 h3 h4 h5 h6 h7 h8 h9 h10
  exact h4 v h I L H locs cells slots ls pc hq h6 h7 (by omega) (by omega) hr
theorem J.reti {x : Int32} {ty : FieldType} (hd : decode M.2.1 pc = .ok (.ireturn, 1)) (ht : M.2.2.2 = some ty) (hn : narrow ty (.int x) = .int x) (hq : Qp (some (.int x)) h I L) : J E M d Qp bc bs pc vs [.int x] h I L := J.ret (some (.int x)) ⟨hd, ty, ht, hn⟩ hq
theorem J.retv (hd : decode M.2.1 pc = .ok (.return_, 1)) (ht : M.2.2.2 = none) (hq : Qp none h I L) : J E M d Qp bc bs pc vs [] h I L := J.ret none ⟨hd, ht⟩ hq
/-- less is known of the locals -/
theorem J.mask {vs' : List (Option Value)} (ms : List Bool) (hm : lmask ms vs = vs') (k : J E M d Qp bc bs pc vs' st h I L) : J E M d Qp bc bs pc vs st h I L := by
  intro p e R s m args below meth c Z H locs cells slots ls h1 h2 h3 h4 h5 h6 h7 h8 h9 h10
  exact k p e R s m args below meth c Z H locs cells slots ls h1 h2 h3 h4 h5 h6 h7 h8 h9 (h10.sub (fun i v hv => by rw [← hm] at hv; exact lmask_spec hv))
/-- less room is asked -/
theorem J.less {bc' bs' : Nat} (k : J E M d Qp bc' bs' pc vs st h I L) (h1 : bc' ≤ bc := by omega) (h2 : bs' ≤ bs := by omega) : J E M d Qp bc bs pc vs st h I L := by
  intro p e R s m args below meth c Z H locs cells slots ls g1 g2 g3 h4 h5 h6 h7 h8 h9 h10
  exact k p e R s m args below meth c Z H locs cells slots ls g1 g2 g3 h4 h5 h6 h7 (by omega) (by omega) h10
/-- a step that touches neither heap nor locals, out of a row of the kit -/
theorem J.go {pc' : Nat} {st' : List Value} (f : ∀ (p : Program) (e : Env) (R : Room) (s : State) (m : MethodId) (args : Array Value) (below : List Frame) (meth : Method) (c : Code) (Z : State → Prop) (H : Heap) (locs : List Loc) (cells slots : Nat) (ls : Array Slot), Fx E M p s m args meth c → Sf E s H → Hp E h I L H → va_S (fun q => eB E ≤ q) s.heap H locs → LV ls M.2.2.1 vs →
      W p (eL E) e R s m args below meth c H locs cells slots Z (F0 m pc' ls st') → W p (eL E) e R s m args below meth c H locs cells slots Z (F0 m pc ls st))
    (k : J E M d Qp bc bs pc' vs st' h I L) : J E M d Qp bc bs pc vs st h I L := by
  intro p e R s m args below meth c Z H locs cells slots ls h1 h2 h3 h4 h5 h6 h7 h8 h9 h10
  exact f p e R s m args below meth c Z H locs cells slots ls h1 h5 h6 h7 h10 (k p e R s m args below meth c Z H locs cells slots ls h1 h2 h3 h4 h5 h6 h7 h8 h9 h10)
theorem J.iconst {n : Int} {v : Int32} (hd : decode M.2.1 pc = .ok (.iconst n, 1)) (hv : Int32.ofInt n = v) (k : J E M d Qp bc bs (pc + 1) vs (.int v :: st) h I L) : J E M d Qp bc bs pc vs st h I L :=
  J.go (fun p e R s m args below meth c Z H locs cells slots ls F _ _ _ hl k => lv_iconst F.1 F.2.1 hd hv k) k
theorem J.bipush {n : Int} {v : Int32} (hd : decode M.2.1 pc = .ok (.bipush n, 2)) (hv : (Int8.ofInt n).toInt32 = v) (k : J E M d Qp bc bs (pc + 2) vs (.int v :: st) h I L) : J E M d Qp bc bs pc vs st h I L :=
  J.go (fun p e R s m args below meth c Z H locs cells slots ls F _ _ _ hl k => lv_bipush F.1 F.2.1 hd hv k) k
theorem J.sipush {n : Int} {v : Int32} (hd : decode M.2.1 pc = .ok (.sipush n, 3)) (hv : (Int16.ofInt n).toInt32 = v) (k : J E M d Qp bc bs (pc + 3) vs (.int v :: st) h I L) : J E M d Qp bc bs pc vs st h I L :=
  J.go (fun p e R s m args below meth c Z H locs cells slots ls F _ _ _ hl k => lv_sipush F.1 F.2.1 hd hv k) k
theorem J.lconst {n : Fin 2} {v : Int64} (hd : decode M.2.1 pc = .ok (.lconst n, 1)) (hv : Int64.ofNat (n : Nat) = v) (k : J E M d Qp bc bs (pc + 1) vs (.long v :: st) h I L) : J E M d Qp bc bs pc vs st h I L :=
  J.go (fun p e R s m args below meth c Z H locs cells slots ls F _ _ _ hl k => lv_lconst F.1 F.2.1 hd hv k) k
theorem J.ldc {index : Nat} {v : Int32} (hc : Cond.constant M.1.cls index v ∈ gT) (hd : decode M.2.1 pc = .ok (.ldc index, 2)) (k : J E M d Qp bc bs (pc + 2) vs (.int v :: st) h I L) : J E M d Qp bc bs pc vs st h I L :=
  J.go (fun p e R s m args below meth c Z H locs cells slots ls F _ _ _ hl k => lv_ldc F.1 F.2.1 F.2.2.2.1 (F.2.2.2.2.1 _ hc) hd k) k
theorem J.iload_n {q : Fin 4} {i : Nat} {x : Int32} (hd : decode M.2.1 pc = .ok (.iload_n q, 1)) (hi : (q : Nat) = i) (hv : vs[i]? = some (some (.int x))) (k : J E M d Qp bc bs (pc + 1) vs (.int x :: st) h I L) : J E M d Qp bc bs pc vs st h I L :=
  J.go (fun p e R s m args below meth c Z H locs cells slots ls F _ _ _ hl k => lv_iload_n F.1 F.2.1 hd hi (hl.get hv) k) k
theorem J.iload {i : Nat} {x : Int32} (hd : decode M.2.1 pc = .ok (.iload i, 2)) (hv : vs[i]? = some (some (.int x))) (k : J E M d Qp bc bs (pc + 2) vs (.int x :: st) h I L) : J E M d Qp bc bs pc vs st h I L :=
  J.go (fun p e R s m args below meth c Z H locs cells slots ls F _ _ _ hl k => lv_iload F.1 F.2.1 hd (hl.get hv) k) k
theorem J.lload_n {q : Fin 4} {i : Nat} {x : Int64} (hd : decode M.2.1 pc = .ok (.lload_n q, 1)) (hi : (q : Nat) = i) (hv : vs[i]? = some (some (.long x))) (k : J E M d Qp bc bs (pc + 1) vs (.long x :: st) h I L) : J E M d Qp bc bs pc vs st h I L :=
  J.go (fun p e R s m args below meth c Z H locs cells slots ls F _ _ _ hl k => lv_lload_n F.1 F.2.1 hd hi (hl.get hv) k) k
theorem J.lload {i : Nat} {x : Int64} (hd : decode M.2.1 pc = .ok (.lload i, 2)) (hv : vs[i]? = some (some (.long x))) (k : J E M d Qp bc bs (pc + 2) vs (.long x :: st) h I L) : J E M d Qp bc bs pc vs st h I L :=
  J.go (fun p e R s m args below meth c Z H locs cells slots ls F _ _ _ hl k => lv_lload F.1 F.2.1 hd (hl.get hv) k) k
theorem J.aload_n {q : Fin 4} {i : Nat} {x : Nat} (hd : decode M.2.1 pc = .ok (.aload_n q, 1)) (hi : (q : Nat) = i) (hv : vs[i]? = some (some (.ref x))) (k : J E M d Qp bc bs (pc + 1) vs (.ref x :: st) h I L) : J E M d Qp bc bs pc vs st h I L :=
  J.go (fun p e R s m args below meth c Z H locs cells slots ls F _ _ _ hl k => lv_aload_n F.1 F.2.1 hd hi (hl.get hv) k) k
theorem J.aload {i : Nat} {x : Nat} (hd : decode M.2.1 pc = .ok (.aload i, 2)) (hv : vs[i]? = some (some (.ref x))) (k : J E M d Qp bc bs (pc + 2) vs (.ref x :: st) h I L) : J E M d Qp bc bs pc vs st h I L :=
  J.go (fun p e R s m args below meth c Z H locs cells slots ls F _ _ _ hl k => lv_aload F.1 F.2.1 hd (hl.get hv) k) k
end JR
