section JC
variable {E : Envt} {M : Mth} {d : Nat} {Qp : Pst} {bc bs pc : Nat} {vs : List (Option Value)} {st : List Value} {h : mS} {I : mI} {L : mL}
theorem J.newaG {atype : ArrayType} {ty : FieldType} {tk ck N : Nat} {n : Int32} {a0 : vp_A} (hty : newarray.typeOf atype = ty) (harr : Cond.arrayClass ty ∈ gT) (htk : ∀ E : Envt, (tysE E)[tk]? = some (eA E tk, ty)) (hnr : ∀ C, ty ≠ .object C)
    (ha0 : (∀ j, I h.2.2 j = 0) → (∀ j, L h.2.2 j = 0) → cel E (nw h ck N) I L h.2.2 = .inl (eA E tk, a0) ∧ vp_cell (eA E tk) a0 = arrV (eA E tk) N (fun _ => defaultValue ty))
    (hn : ¬ n < 0) (hN : n.toNatClampNeg = N) (hb : N * componentBytes ty ≤ 536870912) (hd : decode M.2.1 pc = .ok (.newarray atype, 2))
    (k : (∀ j, I h.2.2 j = 0) → (∀ j, L h.2.2 j = 0) → (∀ j, h.2.1 h.2.2 j = none) → J E M d Qp bc bs (pc + 2) vs (.ref (eB E + h.2.2) :: st) (nw h ck N) I L) : J E M d Qp (bc + 1) (bs + N) pc vs (.int n :: st) h I L := by
  intro p e R s m args below meth c Z H locs cells slots ls F h2 h3 h4 S P V h8 h9 h10
  subst hty
  have hsz := P.2.1
  refine va_newaK F.1 F.2.1 (F.2.2.2.2.1 _ harr) rfl hd rfl hn hN hb (by omega) (by omega) hsz fun H1 cA e1 z1 o1 hAr hNm => ?_
  have hcA : cA = eA E tk := by
    have h1 := (S.1.2 tk _ (htk E)).2
    have h2 : s.vm.findClass ("[" ++ (newarray.typeOf atype).toString) = some (eA E tk) := by
      cases hq : newarray.typeOf atype <;> rw [hq] at h1 <;> first | exact h1 | exact absurd hq (hnr _)
    exact Option.some.inj (hNm.symm.trans h2)
  subst hcA
  obtain ⟨y1, y2, y3⟩ := P.2.2 h.2.2 (Nat.le_refl _)
  have o2 : ∀ q : Nat, q < H.size → H1[q]? = H[q]? := fun q hq => o1 q (by omega)
  have z2 : H1.size = H.size + 1 := by omega
  refine k y1 y2 y3 p e R s m args below meth c Z H1 locs (cells + 1) (slots + N) ls F h2 h3 h4 (S.new P o2) (P.new ?_ z2 o2) (V.new z2 o2) (by omega) (by omega) h10
  obtain ⟨c1, c2⟩ := ha0 y1 y2
  rw [c1]
  show H1[eB E + h.2.2]? = some (vp_cell _ _)
  rw [e1, c2]
theorem J.newI {N : Nat} {n : Int32} (harr : Cond.arrayClass .int ∈ gT) (hn : ¬ n < 0) (hN : n.toNatClampNeg = N) (hb : N * 4 ≤ 536870912) (hd : decode M.2.1 pc = .ok (.newarray .int, 2))
    (k : (∀ j, I h.2.2 j = 0) → (∀ j, L h.2.2 j = 0) → (∀ j, h.2.1 h.2.2 j = none) → J E M d Qp bc bs (pc + 2) vs (.ref (eB E + h.2.2) :: st) (nw h 14 N) I L) : J E M d Qp (bc + 1) (bs + N) pc vs (.int n :: st) h I L :=
  J.newaG (atype := .int) (ty := .int) (ck := 14) (tk := 1) (a0 := (N, .inl (I h.2.2))) rfl harr (fun _ => rfl) (fun _ h => by cases h) (fun h1 _ => ⟨cel_I nw_at, by rw [vp_cell_i]; congr 1; funext j; rw [h1]; rfl⟩) hn hN hb hd k
theorem J.newZ {N : Nat} {n : Int32} (harr : Cond.arrayClass .boolean ∈ gT) (hn : ¬ n < 0) (hN : n.toNatClampNeg = N) (hb : N * 1 ≤ 536870912) (hd : decode M.2.1 pc = .ok (.newarray .boolean, 2))
    (k : (∀ j, I h.2.2 j = 0) → (∀ j, L h.2.2 j = 0) → (∀ j, h.2.1 h.2.2 j = none) → J E M d Qp bc bs (pc + 2) vs (.ref (eB E + h.2.2) :: st) (nw h 16 N) I L) : J E M d Qp (bc + 1) (bs + N) pc vs (.int n :: st) h I L :=
  J.newaG (atype := .boolean) (ty := .boolean) (ck := 16) (tk := 3) (a0 := (N, .inl (I h.2.2))) rfl harr (fun _ => rfl) (fun _ h => by cases h) (fun h1 _ => ⟨cel_Z nw_at, by rw [vp_cell_i]; congr 1; funext j; rw [h1]; rfl⟩) hn hN hb hd k
theorem J.newB {N : Nat} {n : Int32} (harr : Cond.arrayClass .byte ∈ gT) (hn : ¬ n < 0) (hN : n.toNatClampNeg = N) (hb : N * 1 ≤ 536870912) (hd : decode M.2.1 pc = .ok (.newarray .byte, 2))
    (k : (∀ j, I h.2.2 j = 0) → (∀ j, L h.2.2 j = 0) → (∀ j, h.2.1 h.2.2 j = none) → J E M d Qp bc bs (pc + 2) vs (.ref (eB E + h.2.2) :: st) (nw h 13 N) I L) : J E M d Qp (bc + 1) (bs + N) pc vs (.int n :: st) h I L :=
  J.newaG (atype := .byte) (ty := .byte) (ck := 13) (tk := 0) (a0 := (N, .inl (I h.2.2))) rfl harr (fun _ => rfl) (fun _ h => by cases h) (fun h1 _ => ⟨cel_B nw_at, by rw [vp_cell_i]; congr 1; funext j; rw [h1]; rfl⟩) hn hN hb hd k
theorem J.newL {N : Nat} {n : Int32} (harr : Cond.arrayClass .long ∈ gT) (hn : ¬ n < 0) (hN : n.toNatClampNeg = N) (hb : N * 8 ≤ 536870912) (hd : decode M.2.1 pc = .ok (.newarray .long, 2))
    (k : (∀ j, I h.2.2 j = 0) → (∀ j, L h.2.2 j = 0) → (∀ j, h.2.1 h.2.2 j = none) → J E M d Qp bc bs (pc + 2) vs (.ref (eB E + h.2.2) :: st) (nw h 15 N) I L) : J E M d Qp (bc + 1) (bs + N) pc vs (.int n :: st) h I L :=
  J.newaG (atype := .long) (ty := .long) (ck := 15) (tk := 2) (a0 := (N, .inr (.inl (L h.2.2)))) rfl harr (fun _ => rfl) (fun _ h => by cases h) (fun _ h1 => ⟨cel_J nw_at, by rw [vp_cell_l]; congr 1; funext j; rw [h1]; rfl⟩) hn hN hb hd k
theorem J.newqG {C : String} {index tk ck N : Nat} {n : Int32} (hcl : Cond.classLink M.1.cls index C ∈ gT) (hov : ∀ s H, Sf E s H → va_AO C s) (htk : ∀ E : Envt, (tysE E)[tk]? = some (eA E tk, .object C))
    (hc : cel E (nw h ck N) I L h.2.2 = .inl (eA E tk, N, .inr (.inr (.inr (.inr (fun j => (h.2.1 h.2.2 j).map (fun r => eB E + r)))))))
    (hn : ¬ n < 0) (hN : n.toNatClampNeg = N) (hb : N * 4 ≤ 536870912) (hd : decode M.2.1 pc = .ok (.anewarray index, 3))
    (k : (∀ j, I h.2.2 j = 0) → (∀ j, L h.2.2 j = 0) → (∀ j, h.2.1 h.2.2 j = none) → J E M d Qp bc bs (pc + 3) vs (.ref (eB E + h.2.2) :: st) (nw h ck N) I L) : J E M d Qp (bc + 1) (bs + N) pc vs (.int n :: st) h I L := by
  intro p e R s m args below meth c Z H locs cells slots ls F h2 h3 h4 S P V h8 h9 h10
  subst hN
  have hsz := P.2.1
  refine W.anew F.1 F.2.1 F.2.2.2.1 (F.2.2.2.2.1 _ hcl) (va_AO.use (hov s H S)) rfl hd rfl hn hb (by omega) (by omega) fun cA kA comp f1 f2 f3 f4 => ?_
  generalize hH1 : H.push ({ cls := cA, slots := Array.replicate n.toNatClampNeg .null, vm := .none } : Cell) = H1
  have z1 : H1.size = H.size + 1 := by rw [← hH1, Array.size_push]
  have e1 : H1[H.size]? = some (arrV cA n.toNatClampNeg (fun _ => .null)) := by rw [← hH1, Array.getElem?_push_size, ← arrV_new]
  have o1 : ∀ q : Nat, q < H.size → H1[q]? = H[q]? := fun q hq => by rw [← hH1, Array.getElem?_push, if_neg (Nat.ne_of_lt hq)]
  have hcA : cA = eA E tk := by
    obtain ⟨_, _, -, -, -, h1⟩ := (S.1.2 tk _ (htk E)).2
    exact Option.some.inj (f1.symm.trans h1)
  subst hcA
  obtain ⟨y1, y2, y3⟩ := P.2.2 h.2.2 (Nat.le_refl _)
  show W p (eL E) e R s m args below meth c H1 locs (cells + 1) (slots + n.toNatClampNeg) Z (F0 m (pc + 3) ls (.ref H.size :: st))
  rw [hsz]
  refine k y1 y2 y3 p e R s m args below meth c Z H1 locs (cells + 1) (slots + n.toNatClampNeg) ls F h2 h3 h4 (S.new P o1) (P.new ?_ z1 o1) (V.new z1 o1) (by omega) (by omega) h10
  rw [hc]
  show H1[eB E + h.2.2]? = some (vp_cell _ _)
  rw [← hsz, e1, vp_cell_q]
  congr 2
  funext j
  rw [y3]
  rfl
theorem J.newT {index N : Nat} {n : Int32} (hcl : Cond.classLink M.1.cls index RX10 ∈ gT) (hn : ¬ n < 0) (hN : n.toNatClampNeg = N) (hb : N * 4 ≤ 536870912) (hd : decode M.2.1 pc = .ok (.anewarray index, 3))
    (k : (∀ j, I h.2.2 j = 0) → (∀ j, L h.2.2 j = 0) → (∀ j, h.2.1 h.2.2 j = none) → J E M d Qp bc bs (pc + 3) vs (.ref (eB E + h.2.2) :: st) (nw h 18 N) I L) : J E M d Qp (bc + 1) (bs + N) pc vs (.int n :: st) h I L :=
  J.newqG (tk := 5) hcl (fun s H S => S.2.2.2.2.2.2.2.2.2.1) (fun _ => rfl) (cel_T nw_at) hn hN hb hd k
theorem J.newK {index N : Nat} {n : Int32} (hcl : Cond.classLink M.1.cls index RX0 ∈ gT) (hn : ¬ n < 0) (hN : n.toNatClampNeg = N) (hb : N * 4 ≤ 536870912) (hd : decode M.2.1 pc = .ok (.anewarray index, 3))
    (k : (∀ j, I h.2.2 j = 0) → (∀ j, L h.2.2 j = 0) → (∀ j, h.2.1 h.2.2 j = none) → J E M d Qp bc bs (pc + 3) vs (.ref (eB E + h.2.2) :: st) (nw h 17 N) I L) : J E M d Qp (bc + 1) (bs + N) pc vs (.int n :: st) h I L :=
  J.newqG (tk := 4) hcl (fun s H S => S.2.2.2.2.2.2.2.2.1) (fun _ => rfl) (cel_R nw_at) hn hN hb hd k
theorem J.objInit {index a : Nat} (hl : Cond.methodLink M.1.cls index objectInit ∈ gT) (hi : Cond.instanceMethod objectInit ∈ gT) (hc : Cond.code objectInit ⟨#[0xb1]⟩ 1 none ∈ gT) (hd : decode M.2.1 pc = .ok (.invokespecial index, 3)) (hst : (st.map fun v => v.category).sum ≤ 8)
    (k : J E M (d + 1) Qp bc bs (pc + 3) vs st h I L) : J E M (d + 1) Qp bc bs pc vs (.ref a :: st) h I L := by
  intro p e R s m args below meth c Z H locs cells slots ls F h2 h3 h4 S P V h8 h9 h10
  refine W.objInit F.1 F.2.1 F.2.2.2.1 (F.2.2.2.2.1 _ hl) (F.2.2.2.2.1 _ hi) (F.2.2.2.2.1 _ hc) rfl (h10.1.trans F.2.2.1.symm) rfl hd (by omega) ?_ (k p e R s m args below meth c Z H locs cells slots ls F h2 h3 h4 S P V h8 h9 h10)
  have := lv_room (m := m) (pc := pc) (ls := ls) (rest := .ref a :: st) hst
  omega
/-! calls -/
def CalB (M' : Mth) (n : Nat) : Prop := Cond.initialized M'.1.cls ∈ gT ∧ Cond.code M'.1 M'.2.1 M'.2.2.1 M'.2.2.2 ∈ gT ∧ (M'.1.cls ≠ "java/lang/invoke/MethodHandle" ∧ M'.1.cls ≠ "java/lang/invoke/VarHandle" ∧ (parseMethodDescriptor M'.1.desc).map (fun d => d.parameters.length) = some n) ∧ M'.2.2.1 ≤ 45
def CalV (M' : Mth) (n : Nat) : Prop := CalB M' n ∧ Cond.instanceMethod M'.1 ∈ gT ∧ Cond.selects M'.1.cls M'.1 M'.1 ∈ gT
def CalS (M' : Mth) (n : Nat) : Prop := CalB M' n ∧ Cond.static M'.1 ∈ gT
def CalI (M' : Mth) (n : Nat) : Prop := CalB M' n ∧ Cond.instanceMethod M'.1 ∈ gT ∧ M'.1.name = "<init>" ∧ M'.2.2.2 = none
theorem wsU_good {M' : Mth} (hc : Cond.code M'.1 M'.2.1 M'.2.2.1 M'.2.2.2 ∈ gT) : GoodIn gT (wsU M') := by
  intro w hw
  rcases List.mem_cons.mp hw with rfl | hw
  · exact gT_good _ hc
  · exact gT_good _ hw
theorem Pcc_blind {av : List Value} : FrameBlind (Pcc E av h I L) := fun a U g mk q => ⟨q.1, q.2.1, Sf.warm (s := U) (State.WarmedH.refl U) q.2.2⟩
theorem pcc_at {av : List Value} {s : State} {H : Heap} (S : Sf E s H) (P : Hp E h I L H) (U : State) (hU : U.heap = H) (hW : s.WarmedH U.vm) : Pcc E av h I L av.toArray U := ⟨rfl, by rw [hU]; exact P, by rw [hU]; exact S.warm hW⟩
/-- behind a call -/
theorem run_J {d0 bc' bs' : Nat} {p : Program} {e : Env} {R : Room} {s : State} {m : MethodId} {args : Array Value} {below : List Frame} {meth : Method} {c : Code} {Z : State → Prop} {H : Heap} {locs : List Loc} {cells slots : Nat} {ls : Array Slot} {stk : List Value} {aa : Array Value}
    (hr : va_Run p (eL E) e R s m args below meth c H locs cells slots bc' bs' (F0 m pc ls stk) st (Qcc E (fun r h' I' L' => J E M d0 Qp bc bs (pc + 3) vs (r.toList ++ st) h' I' L') aa) (fun q => eB E ≤ q))
    (F : Fx E M p s m args meth c) (h2 : d0 ≤ R.frames) (h3 : 64 * d0 ≤ R.locals) (h4 : Rt E M Qp p e R s m args below meth c Z) (S : Sf E s H) (P : Hp E h I L H) (V : va_S (fun q => eB E ≤ q) s.heap H locs) (h8 : cells + (bc + bc') ≤ R.cells) (h9 : slots + (bs + bs') ≤ R.slots) (h10 : LV ls M.2.2.1 vs) :
    W p (eL E) e R s m args below meth c H locs cells slots Z (F0 m pc ls stk) := by
  intro T hT X
  obtain ⟨v, st₀, t, T', Lc, g0, X', hL, e1, e2, ⟨⟨v', h', I', L', hv, hp, hb⟩, hz, hk⟩, stp⟩ := hr T hT X
  cases hv
  rw [g0] at hz hk
  rw [← e1] at hz hk hb
  have S' : Sf E s T'.heap := S.kept (fun q hq => hk q (by rw [P.2.1]; omega) (by show ¬ eB E ≤ q; omega))
  have V' : va_S (fun q => eB E ≤ q) s.heap T'.heap (locs ++ Lc) := by
    refine ⟨Nat.le_trans V.1 hz, fun q q1 q2 => (hk q (Nat.lt_of_lt_of_le q1 V.1) q2).trans (V.2.1 q q1 q2), fun q hq => ?_⟩
    rcases List.mem_append.mp hq with hq | hq
    · exact V.2.2 q hq
    · exact hL q hq
  obtain ⟨t2, a1, b1⟩ := hp p e R s m args below meth c Z T'.heap (locs ++ Lc) (cells + bc') (slots + bs') ls F h2 h3 h4 S' hb V' (by omega) (by omega) h10 T' rfl X'
  exact ⟨t2, stp t2 a1, b1⟩
theorem recv_at {s : State} {H : Heap} {a n ci : Nat} {q : vw_C} (S : Sf E s H) (P : Hp E h I L H) (ha : a < h.2.2) (hk : h.1 a = (ci, n)) (hc : ci < 13) (hq : vwCl[ci]? = some q) : ∃ cell : Cell, H[eB E + a]? = some cell ∧ cell.vm.isStatics = false ∧ s.vm.findClass q.1 = some cell.cls := by
  have hw := ws_get (E := E) (h := h) (I := I) (L := L) ha
  rw [cel_k hk hc] at hw
  exact va_recv S.1 P.1 hq hw
theorem J.callV {M' : Mth} {index n a ci na bc' bs' : Nat} {q : vw_C} {stk : List Value} (As : List Value) (hl : Cond.methodLink M.1.cls index M'.1 ∈ gT) (cv : CalV M' n) (hd : decode M.2.1 pc = .ok (.invokevirtual index, 3)) (ha : a < h.2.2) (hk : h.1 a = (ci, na)) (hci : ci < 13) (hq : vwCl[ci]? = some q) (hqn : q.1 = M'.1.cls) (hn : As.length = n) (hs : stk = As.reverse ++ .ref (eB E + a) :: st) (hst : (st.map fun v => v.category).sum ≤ 8)
    (k : CT E M' d bc' bs' (.ref (eB E + a) :: As) h I L (fun r h' I' L' => J E M (d + 1) Qp bc bs (pc + 3) vs (r.toList ++ st) h' I' L')) : J E M (d + 1) Qp (bc + bc') (bs + bs') pc vs stk h I L := by
  intro p e R s m args below meth c Z H locs cells slots ls F h2 h3 h4 S P V h8 h9 h10
  subst hs
  have hts := F.2.2.2.2.1
  obtain ⟨⟨c1, c2, c3, c4⟩, c5, c6⟩ := cv
  exact run_J (va_runV (g := F0 m pc ls _) (C := M'.1.cls) ⟨F.1, F.2.1, F.2.2.1, F.2.2.2.1, hts⟩ k ⟨callB_of n hts (wsU_good c2) rfl rfl rfl (hts _ c1) (hts _ hl) c3 ⟨by show d + 1 ≤ _; omega, by show _ + 64 * d ≤ _; omega⟩, hts _ c5, hts _ c6⟩ ⟨Pcc_blind, by rw [← hqn]; exact recv_at S P ha hk hci hq, pcc_at S P⟩ rfl hn h10.1 rfl (lv_room hst) hd ⟨by omega, by omega⟩) F h2 h3 h4 S P V h8 h9 h10
theorem J.callS {M' : Mth} {index n bc' bs' : Nat} {stk : List Value} (As : List Value) (hl : Cond.methodLink M.1.cls index M'.1 ∈ gT) (cv : CalS M' n) (hd : decode M.2.1 pc = .ok (.invokestatic index, 3)) (hn : As.length = n) (hs : stk = As.reverse ++ st) (hst : (st.map fun v => v.category).sum ≤ 8)
    (k : CT E M' d bc' bs' As h I L (fun r h' I' L' => J E M (d + 1) Qp bc bs (pc + 3) vs (r.toList ++ st) h' I' L')) : J E M (d + 1) Qp (bc + bc') (bs + bs') pc vs stk h I L := by
  intro p e R s m args below meth c Z H locs cells slots ls F h2 h3 h4 S P V h8 h9 h10
  subst hs
  have hts := F.2.2.2.2.1
  obtain ⟨⟨c1, c2, c3, c4⟩, c5⟩ := cv
  exact run_J (va_runS (g := F0 m pc ls _) ⟨F.1, F.2.1, F.2.2.1, F.2.2.2.1, hts⟩ k ⟨callB_of n hts (wsU_good c2) rfl rfl rfl (hts _ c1) (hts _ hl) c3 ⟨by show d + 1 ≤ _; omega, by show _ + 64 * d ≤ _; omega⟩, hts _ c5⟩ ⟨Pcc_blind, pcc_at S P⟩ rfl hn h10.1 rfl (lv_room hst) hd ⟨by omega, by omega⟩) F h2 h3 h4 S P V h8 h9 h10
theorem J.callI {M' : Mth} {index n a bc' bs' : Nat} {stk : List Value} (As : List Value) (hl : Cond.methodLink M.1.cls index M'.1 ∈ gT) (cv : CalI M' n) (hd : decode M.2.1 pc = .ok (.invokespecial index, 3)) (hn : As.length = n) (hs : stk = As.reverse ++ .ref a :: st) (hst : (st.map fun v => v.category).sum ≤ 8)
    (k : CT E M' d bc' bs' (.ref a :: As) h I L (fun r h' I' L' => J E M (d + 1) Qp bc bs (pc + 3) vs (r.toList ++ st) h' I' L')) : J E M (d + 1) Qp (bc + bc') (bs + bs') pc vs stk h I L := by
  intro p e R s m args below meth c Z H locs cells slots ls F h2 h3 h4 S P V h8 h9 h10
  subst hs
  have hts := F.2.2.2.2.1
  obtain ⟨⟨c1, c2, c3, c4⟩, c5, c6, c7⟩ := cv
  exact run_J (va_runI (g := F0 m pc ls _) ⟨F.1, F.2.1, F.2.2.1, F.2.2.2.1, hts⟩ k ⟨callB_of n hts (wsU_good c2) (by rw [← c7]; rfl) rfl rfl (hts _ c1) (hts _ hl) c3 ⟨by show d + 1 ≤ _; omega, by show _ + 64 * d ≤ _; omega⟩, c6, hts _ c5⟩ ⟨Pcc_blind, pcc_at S P⟩ rfl hn h10.1 rfl (lv_room hst) hd ⟨by omega, by omega⟩) F h2 h3 h4 S P V h8 h9 h10
theorem J.callSN {M' : Mth} {index n bc' bs' : Nat} {stk : List Value} (As : List Value) (hl : (M.1.cls, index, M'.1) ∈ nestW) (cv : CalS M' n) (hd : decode M.2.1 pc = .ok (.invokestatic index, 3)) (hn : As.length = n) (hs : stk = As.reverse ++ st) (hst : (st.map fun v => v.category).sum ≤ 8)
    (k : CT E M' d bc' bs' As h I L (fun r h' I' L' => J E M (d + 1) Qp bc bs (pc + 3) vs (r.toList ++ st) h' I' L')) : J E M (d + 1) Qp (bc + bc') (bs + bs') pc vs stk h I L := by
  intro p e R s m args below meth c Z H locs cells slots ls F h2 h3 h4 S P V h8 h9 h10
  subst hs
  have hts := F.2.2.2.2.1
  obtain ⟨⟨c1, c2, c3, c4⟩, c5⟩ := cv
  exact run_J (va_runSN (g := F0 m pc ls _) ⟨F.1, F.2.1, F.2.2.1, F.2.2.2.1, hts⟩ k ⟨va_cnB n hts (wsU_good c2) rfl rfl rfl (S.2.2.2.1 _ hl) (hts _ c1) c3 ⟨by show d + 1 ≤ _; omega, by show _ + 64 * d ≤ _; omega⟩, hts _ c5, trivial⟩ ⟨Pcc_blind, pcc_at S P⟩ rfl hn h10.1 rfl (lv_room hst) hd ⟨by omega, by omega⟩) F h2 h3 h4 S P V h8 h9 h10
theorem J.callIN {M' : Mth} {index n a bc' bs' : Nat} {stk : List Value} (As : List Value) (hl : (M.1.cls, index, M'.1) ∈ nestW) (cv : CalI M' n) (hd : decode M.2.1 pc = .ok (.invokespecial index, 3)) (hn : As.length = n) (hs : stk = As.reverse ++ .ref a :: st) (hst : (st.map fun v => v.category).sum ≤ 8)
    (k : CT E M' d bc' bs' (.ref a :: As) h I L (fun r h' I' L' => J E M (d + 1) Qp bc bs (pc + 3) vs (r.toList ++ st) h' I' L')) : J E M (d + 1) Qp (bc + bc') (bs + bs') pc vs stk h I L := by
  intro p e R s m args below meth c Z H locs cells slots ls F h2 h3 h4 S P V h8 h9 h10
  subst hs
  have hts := F.2.2.2.2.1
  obtain ⟨⟨c1, c2, c3, c4⟩, c5, c6, c7⟩ := cv
  exact run_J (va_runIN (g := F0 m pc ls _) ⟨F.1, F.2.1, F.2.2.1, F.2.2.2.1, hts⟩ k ⟨va_cnB n hts (wsU_good c2) (by rw [← c7]; rfl) rfl rfl (S.2.2.2.1 _ hl) (hts _ c1) c3 ⟨by show d + 1 ≤ _; omega, by show _ + 64 * d ≤ _; omega⟩, c6, hts _ c5⟩ ⟨Pcc_blind, pcc_at S P⟩ rfl hn h10.1 rfl (lv_room hst) hd ⟨by omega, by omega⟩) F h2 h3 h4 S P V h8 h9 h10
/-- the script -/
theorem J.sld {i x : Int32} (hd : decode M.2.1 pc = .ok (.iaload, 1)) (hin : vp_in i (eN E)) (hx : ex E i.toNatClampNeg = x) (k : J E M d Qp bc bs (pc + 1) vs (.int x :: st) h I L) : J E M d Qp bc bs pc vs (.int i :: .ref (eb E) :: st) h I L := by
  subst hx
  refine J.go (fun p e R s m args below meth c Z H locs cells slots ls F S P V hl k => ?_) k
  obtain ⟨scr, q1, q2, q3, q4, q5⟩ := S.2.2.2.2.2.1
  have hlt : i.toNatClampNeg < eN E := Nat.not_le.mp fun q => hin (Or.inr q)
  exact W.iald F.1 F.2.1 q1 q2 q3 (by rw [q4]; exact hin) (q5 _ hlt) rfl rfl hd k
theorem J.slen {v : Int32} (hd : decode M.2.1 pc = .ok (.arraylength, 1)) (hv : Int32.ofNat (eN E) = v) (k : J E M d Qp bc bs (pc + 1) vs (.int v :: st) h I L) : J E M d Qp bc bs pc vs (.ref (eb E) :: st) h I L := by
  subst hv
  refine J.go (fun p e R s m args below meth c Z H locs cells slots ls F S P V hl k => ?_) k
  obtain ⟨scr, q1, q2, q3, q4, q5⟩ := S.2.2.2.2.2.1
  exact W.alen (n := Int32.ofNat (eN E)) F.1 F.2.1 q1 q2 (by rw [q4] <;> rfl) rfl rfl hd k
end JC
