def refK (ck : Nat) : Nat := if ck = 17 then 0 else 10
section JH3
variable {E : Envt} {M : Mth} {d : Nat} {Qp : Pst} {bc bs pc : Nat} {vs : List (Option Value)} {st : List Value} {h : mS} {I : mI} {L : mL}
theorem Hp.stR {H H1 : Heap} {a i : Nat} {x : Option Nat} (P : Hp E h I L H) (ha : a < h.2.2) (he : va_at (eD E) vwCl (eB E + a, cel E (uRh h a i x) I L a) H1) (z : H1.size = H.size) (oq : ∀ q : Nat, q ≠ eB E + a → H1[q]? = H[q]?) : Hp E (uRh h a i x) I L H1 :=
  P.put (e := cel E h I L a) (h' := uRh h a i x) ha rfl he (fun b hb => cel_congr rfl (uR_ne hb) rfl rfl) z oq (fun b hb => by show _ ∧ _ ∧ ∀ j, uR h.2.1 a i x b j = none; rw [uR_ne (by omega)]; exact P.2.2 b hb)
theorem J.aastT {a n v nv : Nat} {i : Int32} (hd : decode M.2.1 pc = .ok (.aastore, 1)) (ha : a < h.2.2) (hk : h.1 a = (18, n)) (hin : vp_in i n) (hv : v < h.2.2) (hkv : h.1 v = (10, nv)) (k : J E M d Qp bc bs (pc + 1) vs st (uRh h a i.toNatClampNeg (some v)) I L) : J E M d Qp bc bs pc vs (.ref (eB E + v) :: .int i :: .ref (eB E + a) :: st) h I L := by
  intro p e R s m args below meth c Z H locs cells slots ls F h2 h3 h4 S P V h8 h9 h10
  have hw := ws_get (E := E) (h := h) (I := I) (L := L) ha
  rw [cel_T hk] at hw
  have hwv := ws_get (E := E) (h := h) (I := I) (L := L) hv
  rw [cel_k hkv (by decide)] at hwv
  have hlt : i.toNatClampNeg < n := Nat.not_le.mp fun q => hin (Or.inr q)
  have h0 : ¬ i < 0 := fun q => hin (Or.inl q)
  obtain ⟨r', hr', cellV, g1, g2, g3, -⟩ := P.1 v _ hwv
  have hcls := (S.1.1 10 (RX10, TX10, 8) rfl).2
  obtain ⟨kA, comp, k1, k2, k3, -⟩ := (S.1.2 5 (eA E 5, .object RX10) rfl).2
  have hcomp : comp = (eD E).1 10 := Option.some.inj (k3.symm.trans hcls.1)
  subst hcomp
  obtain ⟨kC, hkC, -⟩ := hcls.2
  refine W.aast F.1 F.2.1 (P.1 a _ hw) (fun q h => by cases h) (fun h => by cases h) k1 k2 rfl hkC ⟨h0, by show _ < (arrV _ _ _).slots.size; rw [arrV_size]; exact hlt⟩ g1 (fun q h => by rw [g3] at h; cases h) (by rw [g2]; exact hkC) (by rw [g2]; exact va_assign hcls) rfl rfl hd fun H1 e1 z oq => ?_
  refine k p e R s m args below meth c Z H1 _ cells slots ls F h2 h3 h4 (S.put oq) (P.stR ha ?_ z oq) (V.put z oq (by show eB E ≤ eB E + a; omega)) h8 h9 h10
  rw [cel_T (h := uRh h a i.toNatClampNeg (some v)) hk]
  show H1[eB E + a]? = some (vp_cell _ _)
  rw [e1, vp_cell_q, vp_cell_q, arrV_store]
  congr 2
  funext q
  by_cases hq : q = i.toNatClampNeg
  · subst hq; simp [updV, uR, va_rf]
  · simp [updV, uR, hq]
theorem J.aastB {a n v nv : Nat} {i : Int32} (hd : decode M.2.1 pc = .ok (.aastore, 1)) (ha : a < h.2.2) (hk : h.1 a = (17, n)) (hin : vp_in i n) (hv : v < h.2.2) (hkv : h.1 v = (0, nv)) (k : J E M d Qp bc bs (pc + 1) vs st (uRh h a i.toNatClampNeg (some v)) I L) : J E M d Qp bc bs pc vs (.ref (eB E + v) :: .int i :: .ref (eB E + a) :: st) h I L := by
  intro p e R s m args below meth c Z H locs cells slots ls F h2 h3 h4 S P V h8 h9 h10
  have hw := ws_get (E := E) (h := h) (I := I) (L := L) ha
  rw [cel_R hk] at hw
  have hwv := ws_get (E := E) (h := h) (I := I) (L := L) hv
  rw [cel_k hkv (by decide)] at hwv
  have hlt : i.toNatClampNeg < n := Nat.not_le.mp fun q => hin (Or.inr q)
  have h0 : ¬ i < 0 := fun q => hin (Or.inl q)
  obtain ⟨r', hr', cellV, g1, g2, g3, -⟩ := P.1 v _ hwv
  have hcls := (S.1.1 0 (RX0, TX0, 10) rfl).2
  obtain ⟨kA, comp, k1, k2, k3, -⟩ := (S.1.2 4 (eA E 4, .object RX0) rfl).2
  have hcomp : comp = (eD E).1 0 := Option.some.inj (k3.symm.trans hcls.1)
  subst hcomp
  obtain ⟨kC, hkC, -⟩ := hcls.2
  refine W.aast F.1 F.2.1 (P.1 a _ hw) (fun q h => by cases h) (fun h => by cases h) k1 k2 rfl hkC ⟨h0, by show _ < (arrV _ _ _).slots.size; rw [arrV_size]; exact hlt⟩ g1 (fun q h => by rw [g3] at h; cases h) (by rw [g2]; exact hkC) (by rw [g2]; exact va_assign hcls) rfl rfl hd fun H1 e1 z oq => ?_
  refine k p e R s m args below meth c Z H1 _ cells slots ls F h2 h3 h4 (S.put oq) (P.stR ha ?_ z oq) (V.put z oq (by show eB E ≤ eB E + a; omega)) h8 h9 h10
  rw [cel_R (h := uRh h a i.toNatClampNeg (some v)) hk]
  show H1[eB E + a]? = some (vp_cell _ _)
  rw [e1, vp_cell_q, vp_cell_q, arrV_store]
  congr 2
  funext q
  by_cases hq : q = i.toNatClampNeg
  · subst hq; simp [updV, uR, va_rf]
  · simp [updV, uR, hq]
theorem J.aastTN {a n : Nat} {i : Int32} (hd : decode M.2.1 pc = .ok (.aastore, 1)) (ha : a < h.2.2) (hk : h.1 a = (18, n)) (hin : vp_in i n) (k : J E M d Qp bc bs (pc + 1) vs st (uRh h a i.toNatClampNeg none) I L) : J E M d Qp bc bs pc vs (.null :: .int i :: .ref (eB E + a) :: st) h I L := by
  intro p e R s m args below meth c Z H locs cells slots ls F h2 h3 h4 S P V h8 h9 h10
  have hw := ws_get (E := E) (h := h) (I := I) (L := L) ha
  rw [cel_T hk] at hw
  refine va_WaastN (C := RX10) F.1 F.2.1 (P.1 a _ hw) ((S.1.2 5 (eA E 5, .object RX10) rfl).1 n (fun j => va_rf ((h.2.1 a j).map (fun r => eB E + r)))) (fun h => by cases h) (by show ¬ (i < 0 ∨ (arrV _ _ _).slots.size ≤ _); rw [arrV_size]; exact hin) rfl rfl hd fun H1 e1 z oq => ?_
  refine k p e R s m args below meth c Z H1 _ cells slots ls F h2 h3 h4 (S.put oq) (P.stR ha ?_ z oq) (V.put z oq (by show eB E ≤ eB E + a; omega)) h8 h9 h10
  rw [cel_T (h := uRh h a i.toNatClampNeg none) hk]
  show H1[eB E + a]? = some (vp_cell _ _)
  rw [e1, vp_cell_q, vp_cell_q, arrV_store]
  congr 2
  funext q
  by_cases hq : q = i.toNatClampNeg
  · subst hq; simp [updV, uR, va_rf]
  · simp [updV, uR, hq]
/-! making -/
theorem Hp.new {H H1 : Heap} {ck n : Nat} (P : Hp E h I L H) (he : va_at (eD E) vwCl (eB E + h.2.2, cel E (nw h ck n) I L h.2.2) H1) (z : H1.size = H.size + 1) (oq : ∀ q : Nat, q < H.size → H1[q]? = H[q]?) : Hp E (nw h ck n) I L H1 := by
  refine ⟨?_, by rw [z, P.2.1]; show eB E + h.2.2 + 1 = eB E + (h.2.2 + 1); omega, fun b hb => P.2.2 b (by have : h.2.2 + 1 ≤ b := hb; omega)⟩
  rw [← ws_push (h := h) (h' := nw h ck n) (I := I) (I' := I) (L := L) (L' := L) rfl rfl (fun b hb => cel_congr (by show (if b = h.2.2 then (ck, n) else h.1 b) = h.1 b; rw [if_neg (by omega)]) rfl rfl rfl)]
  refine va_P.app (P.1.kept (fun k q hq => oq q.1 (P.1 k q hq).lt)) (fun k q hq => ?_)
  have hz : k < 1 := (List.getElem?_eq_some_iff.mp hq).1
  rw [show k = 0 by omega] at hq
  cases hq
  exact he
theorem Sf.new {s : State} {H H1 : Heap} (S : Sf E s H) (P : Hp E h I L H) (oq : ∀ q : Nat, q < H.size → H1[q]? = H[q]?) : Sf E s H1 := S.kept (fun q hq => oq q (by rw [P.2.1]; omega))
theorem va_S.new {A : Nat → Prop} {H0 H H1 : Heap} {locs : List Loc} (V : va_S A H0 H locs) (z : H1.size = H.size + 1) (oq : ∀ q : Nat, q < H.size → H1[q]? = H[q]?) : va_S A H0 H1 locs := ⟨Nat.le_trans V.1 (by omega), fun x h1 h2 => (oq x (Nat.lt_of_lt_of_le h1 V.1)).trans (V.2.1 x h1 h2), V.2.2⟩
theorem nw_at {ck n : Nat} : (nw h ck n).1 h.2.2 = (ck, n) := by show (if h.2.2 = h.2.2 then (ck, n) else _) = _; rw [if_pos rfl]
theorem fits_def {B : Nat} {ty : FieldType} {R : mR} {I : mI} {L : mL} {a i : Nat} (hf : ty ≠ .float ∧ ty ≠ .double) (h1 : I a i = 0) (h2 : L a i = 0) (h3 : R a i = none) : defaultValue ty = fv B ty R I L a i := by
  cases ty <;> simp_all [fv, defaultValue, rlf, va_rf]
theorem J.new {index ci N : Nat} {C : String} {T : u_T} (hC : ClsOK ci C T N) (hf : ∀ i, i < N → tyOf ci i ≠ .float ∧ tyOf ci i ≠ .double) (hcl : Cond.classLink M.1.cls index C ∈ gT) (hin : Cond.instantiable C N ∈ gT) (hini : Cond.initialized C ∈ gT) (hd : decode M.2.1 pc = .ok (.new index, 3))
    (k : (∀ j, I h.2.2 j = 0) → (∀ j, L h.2.2 j = 0) → (∀ j, h.2.1 h.2.2 j = none) → J E M d Qp bc bs (pc + 3) vs (.ref (eB E + h.2.2) :: st) (nw h ci 0) I L) : J E M d Qp (bc + 1) (bs + N) pc vs st h I L := by
  intro p e R s m args below meth c Z H locs cells slots ls F h2 h3 h4 S P V h8 h9 h10
  have hKn := S.1.1 ci _ hC.1
  refine W.newcK F.1 F.2.1 F.2.2.2.1 (F.2.2.2.2.1 _ hcl) (F.2.2.2.2.1 _ hin) (F.2.2.2.2.1 _ hini) rfl hd (by omega) (by omega) hKn.2.1 rfl fun H1 kC hkC e1 z1 o1 => ?_
  obtain ⟨y1, y2, y3⟩ := P.2.2 h.2.2 (Nat.le_refl _)
  have hsz := P.2.1
  show W p (eL E) e R s m args below meth c H1 locs (cells + 1) (slots + N) Z (F0 m (pc + 3) ls (.ref H.size :: st))
  rw [hsz]
  refine k y1 y2 y3 p e R s m args below meth c Z H1 locs (cells + 1) (slots + N) ls F h2 h3 h4 (S.new P o1) (P.new ?_ z1 o1) (V.new z1 o1) (by omega) (by omega) h10
  rw [cel_k nw_at hC.2.2.2.2.2]
  refine ⟨_, hC.1, ?_⟩
  show t_OB (eB E + h.2.2) _ _ _ _ _
  rw [← hsz]
  refine (u_born (tyOf ci) F.2.2.2.2.1 hC.2.1 hKn hkC e1 hC.2.2.1).to fun j hj => ?_
  rw [fits_def (B := eB E) (R := h.2.1) (I := I) (L := L) (a := h.2.2) (i := j) (hf j hj) (y1 j) (y2 j) (y3 j)]
  show _ = (fvs _ _ _ _ _ _).getD j .null
  rw [List.getD_eq_getElem?_getD, fvs_get (by rw [hC.2.2.2.2.1]; exact hj)]
  rfl
end JH3
