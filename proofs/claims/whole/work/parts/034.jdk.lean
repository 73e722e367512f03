/-! methods of the JDK that no native row stands for -/
theorem Met.ofWF {l : Launch} {y : MethodName} {ws ws' : List Cond} {rm : Room} {Pc : Array Value → State → Prop} {Qc : Array Value → State → Outcome → State → Prop} {mc ms : Nat} {free : Addr → Prop} {cc : ByteArray} {maxL : Nat} {ret : Option FieldType}
    (hy : plainFor y = true) (hw : ws = Cond.code y cc maxL ret :: ws')
    (body : ∀ p e s m args below meth c s₁, BodyLoose p l y (headSpec ws rm) cc maxL ret e s m args below meth c s₁ → c.maxLocals = maxL → Pc args s →
      W p l e (headSpec ws rm).room s m args below meth c s.heap [] 0 0 (MQ below Qc args s mc ms free) (entryFrame m args maxL)) : Met l y ws rm Pc Qc mc ms free := by
  refine MetFree.of_bodySF (code := cc) (maxLocals := maxL) (ret := ret) hy ?_ ?_
  · intro args s m h hn
    obtain ⟨meth, c, h1, h2, h3, h4, h5, h6, -, -⟩ := Cond.code_spec hn (atoms_spec (ws := ws) h _ (by rw [hw]; exact List.mem_cons_self))
    exact ⟨meth, c, h1, h2, h3, h4, h5, h6⟩
  · intro p e s m args below meth c s₁ B hml hP _
    have hh0 : s₁.heap = s.heap := by rw [B.state]; rfl
    obtain ⟨t, a1, o, b1, b2, b3⟩ := body p e s m args below meth c s₁ B hml hP s₁ hh0 (Stand.of_body B)
    exact ⟨t, o, a1, b1, b2, ⟨b3.1, b3.2⟩⟩
theorem CT.ofF {E : Envt} {M : Mth} {d bc bs : Nat} {av : List Value} {h : mS} {I : mI} {L : mL} {Qp : Pst} (hy : plainFor M.1 = true) (vs : List (Option Value)) (hvs : entv M.2.2.1 av = vs) (hlen : (lg_sl av).length ≤ M.2.2.1)
    (hj : J E M d Qp bc bs 0 vs [] h I L) : CT E M d bc bs av h I L Qp := by
  refine Met.ofWF (cc := M.2.1) (maxL := M.2.2.1) (ret := M.2.2.2) hy rfl ?_
  intro p e s m args below meth c s₁ B hml hv
  obtain ⟨rfl, hHp, hSf⟩ := hv
  have hx := B.exec
  have hb := B.bytes
  have hr := B.returns
  have hts := atoms_spec (ws := wsU M) B.pre
  have hown : s.vm.findClass M.1.cls = some m.cls := findClass_of_methodNamed B.named
  have hlocks := B.notSynchronized
  have hl := lv_entry av (n := M.2.2.1) hlen
  rw [lg_entry_eq]
  have hLV := entv_LV hl
  rw [hvs] at hLV
  refine hj p e (rmo d bc bs) s m _ below meth c _ s.heap [] 0 0 _ ⟨hx, hb, hml, hown, fun w hw => hts w (List.mem_cons_of_mem _ hw), (name_of_methodNamed B.named B.method).1, hHp.size⟩ (Nat.le_refl _) (Nat.le_refl _) ?_ hSf hHp va_S.rf (by show 0 + bc ≤ bc; omega) (by show 0 + bs ≤ bs; omega) hLV
  intro v h' I' L' H locs cells slots ls pc hq hHp' hS hc hs hret
  refine W.widen (k := bc) (n := bs) hc hs ?_
  match v, hret, hq with
  | none, hret, hq => exact W.vret hx hb (hr.trans hret.2) (fun t ht hW => ⟨⟨none, h', I', L', rfl, hq, by rw [ht]; exact hHp'⟩, hS.F ht⟩) hS.2.2 hret.1
  | some (.int x), hret, hq =>
    obtain ⟨h1, ty, h2, h3⟩ := hret
    exact W.zret hx hb (hr.trans h2) h3 (fun t ht hW => ⟨⟨_, h', I', L', rfl, hq, by rw [ht]; exact hHp'⟩, hS.F ht⟩) hS.2.2 h1
  | some (.ref a), hret, hq =>
    obtain ⟨h1, n, h2⟩ := hret
    exact W.aret hx hb (hr.trans h2) (Or.inl ⟨n, rfl⟩) (Or.inr ⟨a, rfl⟩) (fun t ht hW => ⟨⟨_, h', I', L', rfl, hq, by rw [ht]; exact hHp'⟩, hS.F ht⟩) hS.2.2 h1
  | some .null, hret, hq =>
    obtain ⟨h1, n, h2⟩ := hret
    exact W.aret hx hb (hr.trans h2) (Or.inl ⟨n, rfl⟩) (Or.inl rfl) (fun t ht hW => ⟨⟨_, h', I', L', rfl, hq, by rw [ht]; exact hHp'⟩, hS.F ht⟩) hS.2.2 h1
  | some (.long x), hret, hq =>
    exact W.lret hx hb (hr.trans hret.2) (fun t ht hW => ⟨⟨_, h', I', L', rfl, hq, by rw [ht]; exact hHp'⟩, hS.F ht⟩) hS.2.2 hret.1
section JT
variable {E : Envt} {M : Mth} {d : Nat} {Qp : Pst} {bc bs pc : Nat} {vs : List (Option Value)} {st : List Value} {h : mS} {I : mI} {L : mL}
theorem J.tableOut {dflt lo hi : Int} {offs : Array Int} {len : Nat} {x : Int32} (tgt : Nat) (hd : decode M.2.1 pc = .ok (.tableswitch dflt lo hi offs, len)) (hx : x.toInt < lo ∨ hi < x.toInt) (ht : (pc : Int) + dflt = (tgt : Int)) (k : J E M d Qp bc bs tgt vs st h I L) : J E M d Qp bc bs pc vs (.int x :: st) h I L :=
  J.go (fun p e R s m args below meth c Z H locs cells slots ls F _ _ _ hl k => lv_tableOut F.1 F.2.1 hd hx ht k) k
end JT
