/-! rows that read and write the heap -/
theorem cel_k {E : Envt} {h : mS} {I : mI} {L : mL} {a ci n : Nat} (hk : h.1 a = (ci, n)) (hc : ci < 13) : cel E h I L a = .inr (ci, fvs (eB E) ci h.2.1 I L a) := by
  unfold cel
  rw [hk]
  rw [if_neg (by omega), if_neg (by omega), if_neg (by omega), if_neg (by omega), if_neg (by omega), if_neg (by omega)]
theorem cel_B {E : Envt} {h : mS} {I : mI} {L : mL} {a n : Nat} (hk : h.1 a = (13, n)) : cel E h I L a = .inl (eA E 0, n, .inl (I a)) := by simp [cel, hk]
theorem cel_I {E : Envt} {h : mS} {I : mI} {L : mL} {a n : Nat} (hk : h.1 a = (14, n)) : cel E h I L a = .inl (eA E 1, n, .inl (I a)) := by simp [cel, hk]
theorem cel_J {E : Envt} {h : mS} {I : mI} {L : mL} {a n : Nat} (hk : h.1 a = (15, n)) : cel E h I L a = .inl (eA E 2, n, .inr (.inl (L a))) := by simp [cel, hk]
theorem cel_Z {E : Envt} {h : mS} {I : mI} {L : mL} {a n : Nat} (hk : h.1 a = (16, n)) : cel E h I L a = .inl (eA E 3, n, .inl (I a)) := by simp [cel, hk]
theorem cel_R {E : Envt} {h : mS} {I : mI} {L : mL} {a n : Nat} (hk : h.1 a = (17, n)) : cel E h I L a = .inl (eA E 4, n, .inr (.inr (.inr (.inr (fun j => (h.2.1 a j).map (fun r => eB E + r)))))) := by simp [cel, hk]
theorem cel_T {E : Envt} {h : mS} {I : mI} {L : mL} {a n : Nat} (hk : h.1 a = (18, n)) : cel E h I L a = .inl (eA E 5, n, .inr (.inr (.inr (.inr (fun j => (h.2.1 a j).map (fun r => eB E + r)))))) := by simp [cel, hk]
theorem fvs_congr {B k : Nat} {R R' : mR} {I I' : mI} {L L' : mL} {a : Nat} (h1 : R' a = R a) (h2 : I' a = I a) (h3 : L' a = L a) : fvs B k R' I' L' a = fvs B k R I L a := by
  unfold fvs
  refine List.map_congr_left fun i _ => ?_
  unfold fv
  rw [h1, h2, h3]
theorem cel_congr {E : Envt} {h h' : mS} {I I' : mI} {L L' : mL} {a : Nat} (h0 : h'.1 a = h.1 a) (h1 : h'.2.1 a = h.2.1 a) (h2 : I' a = I a) (h3 : L' a = L a) : cel E h' I' L' a = cel E h I L a := by
  unfold cel
  rw [h0, h1, h2, h3, fvs_congr h1 h2 h3]
def ClsOK (ci : Nat) (C : String) (T : u_T) (N : Nat) : Prop := vwCl[ci]? = some (C, T, N) ∧ (∀ w ∈ u_ws C T N, w ∈ gT) ∧ (∀ k, k < N → parseFieldDescriptor (T k).2.2.1 = some (tyOf ci k)) ∧ (∀ a, a < N → ∀ b, b < N → a ≠ b → (T a).2.1 ≠ (T b).2.1) ∧ nfOf ci = N ∧ ci < 13
/-- own's entry 'index' is field i of class ci -/
def FLk (own : String) (index ci i : Nat) : Prop := ∃ (C : String) (T : u_T) (N : Nat), ClsOK ci C T N ∧ i < N ∧ (T i).1 = C ∧ Cond.fieldLink own index C (T i).2.1 (T i).2.2.1 ∈ gT
/-- and it may be written *)  -/
def FLw (own : String) (index ci i : Nat) : Prop := ∃ (C : String) (T : u_T) (N : Nat), ClsOK ci C T N ∧ i < N ∧ (T i).1 = C ∧ Cond.fieldLink own index C (T i).2.1 (T i).2.2.1 ∈ gT ∧ (T i).2.2.2 = false
/-- or written in the class's own constructor -/
def FLf (own : String) (index ci i : Nat) : Prop := ∃ (T : u_T) (N : Nat), ClsOK ci own T N ∧ i < N ∧ (T i).1 = own ∧ Cond.fieldLink own index own (T i).2.1 (T i).2.2.1 ∈ gT ∧ (T i).2.2.2 = true
def iTy : FieldType → Bool
  | .long => false
  | .object _ => false
  | .array _ => false
  | _ => true
def rTy : FieldType → Bool
  | .object _ => true
  | .array _ => true
  | _ => false
theorem fv_int {B : Nat} {ty : FieldType} {R : mR} {I : mI} {L : mL} {a i : Nat} (h : iTy ty = true) : fv B ty R I L a i = .int (I a i) := by
  cases ty <;> first | rfl | (simp [iTy] at h)
theorem fv_ref {B : Nat} {ty : FieldType} {R : mR} {I : mI} {L : mL} {a i : Nat} (h : rTy ty = true) : fv B ty R I L a i = rlf B (R a i) := by
  cases ty <;> first | rfl | (simp [rTy] at h)
section JH
variable {E : Envt} {M : Mth} {d : Nat} {Qp : Pst} {bc bs pc : Nat} {vs : List (Option Value)} {st : List Value} {h : mS} {I : mI} {L : mL}
theorem J.getV {index ci i a n : Nat} {v : Value} (fl : FLk M.1.cls index ci i) (hd : decode M.2.1 pc = .ok (.getfield index, 3)) (ha : a < h.2.2) (hk : h.1 a = (ci, n)) (hv : fv (eB E) (tyOf ci i) h.2.1 I L a i = v)
    (k : J E M d Qp bc bs (pc + 3) vs (v :: st) h I L) : J E M d Qp bc bs pc vs (.ref (eB E + a) :: st) h I L := by
  refine J.go (fun p e R s m args below meth c Z H locs cells slots ls F S P V hl k => ?_) k
  obtain ⟨C, T, N, hC, hi, hO, hl⟩ := fl
  have hw := ws_get (E := E) (h := h) (I := I) (L := L) ha
  rw [cel_k hk hC.2.2.2.2.2] at hw
  refine va_get F.1 F.2.1 F.2.2.2.2.1 hC.2.1 F.2.2.2.1 S.1 P.1 a hw hC.1 i hi (F.2.2.2.2.1 _ hl) (fun x hx => by rw [hO] at hx; exact hx) (v := v) ?_ hd k
  rw [fvs_get (by rw [hC.2.2.2.2.1]; exact hi), hv]
theorem J.getI {index ci i a n : Nat} {x : Int32} (fl : FLk M.1.cls index ci i) (ht : iTy (tyOf ci i) = true) (hd : decode M.2.1 pc = .ok (.getfield index, 3)) (ha : a < h.2.2) (hk : h.1 a = (ci, n)) (hv : I a i = x)
    (k : J E M d Qp bc bs (pc + 3) vs (.int x :: st) h I L) : J E M d Qp bc bs pc vs (.ref (eB E + a) :: st) h I L := J.getV fl hd ha hk (by rw [fv_int ht, hv]) k
theorem J.getR {index ci i a n r : Nat} (fl : FLk M.1.cls index ci i) (ht : rTy (tyOf ci i) = true) (hd : decode M.2.1 pc = .ok (.getfield index, 3)) (ha : a < h.2.2) (hk : h.1 a = (ci, n)) (hv : h.2.1 a i = some r)
    (k : J E M d Qp bc bs (pc + 3) vs (.ref (eB E + r) :: st) h I L) : J E M d Qp bc bs pc vs (.ref (eB E + a) :: st) h I L := J.getV fl hd ha hk (by rw [fv_ref ht, hv]; rfl) k
theorem J.getL {index ci i a n : Nat} {x : Int64} (fl : FLk M.1.cls index ci i) (ht : tyOf ci i = .long) (hd : decode M.2.1 pc = .ok (.getfield index, 3)) (ha : a < h.2.2) (hk : h.1 a = (ci, n)) (hv : L a i = x)
    (k : J E M d Qp bc bs (pc + 3) vs (.long x :: st) h I L) : J E M d Qp bc bs pc vs (.ref (eB E + a) :: st) h I L := J.getV fl hd ha hk (by rw [ht, ← hv]; rfl) k
theorem Hp.put {h' : mS} {I' : mI} {L' : mL} {H H1 : Heap} {a : Nat} {e : va_E} (P : Hp E h I L H) (ha : a < h.2.2) (hn : h'.2.2 = h.2.2) (he : va_at (eD E) vwCl (eB E + a, cel E h' I' L' a) H1) (hc : ∀ b, b ≠ a → cel E h' I' L' b = cel E h I L b) (z : H1.size = H.size) (oq : ∀ q : Nat, q ≠ eB E + a → H1[q]? = H[q]?)
    (hz : ∀ b, h.2.2 ≤ b → (∀ j, I' b j = 0) ∧ (∀ j, L' b j = 0) ∧ ∀ j, h'.2.1 b j = none) : Hp E h' I' L' H1 := by
  refine ⟨?_, by rw [z, P.2.1, hn], fun b hb => hz b (by omega)⟩
  have := P.1.set ws_D (ws_get ha) he oq
  rw [ws_set ha hn rfl hc] at this
  exact this
theorem Sf.put {s : State} {H H1 : Heap} {a : Nat} (S : Sf E s H) (oq : ∀ q : Nat, q ≠ eB E + a → H1[q]? = H[q]?) : Sf E s H1 := S.kept (fun q hq => oq q (by omega))
theorem J.putV {h' : mS} {I' : mI} {L' : mL} {index ci i a n : Nat} {v : Value} (fl : FLw M.1.cls index ci i ∨ (FLf M.1.cls index ci i ∧ M.1.name = "<init>")) (hd : decode M.2.1 pc = .ok (.putfield index, 3)) (ha : a < h.2.2) (hk : h.1 a = (ci, n))
    (hnar : narrow (tyOf ci i) v = v) (hfit : fits (tyOf ci i) v = true)
    (h0 : h'.1 = h.1) (hn : h'.2.2 = h.2.2) (hf : (fvs (eB E) ci h.2.1 I L a).set i v = fvs (eB E) ci h'.2.1 I' L' a) (hc : ∀ b, b ≠ a → h'.2.1 b = h.2.1 b ∧ I' b = I b ∧ L' b = L b)
    (k : J E M d Qp bc bs (pc + 3) vs st h' I' L') : J E M d Qp bc bs pc vs (v :: .ref (eB E + a) :: st) h I L := by
  intro p e R s m args below meth c Z H locs cells slots ls F h2 h3 h4 S P V h8 h9 h10
  have key : ∀ (C : String) (T : u_T) (N : Nat), ClsOK ci C T N → i < N → ∀ (f : Field) (H' : Heap) (cell : Cell), True := fun _ _ _ _ _ _ _ _ => trivial
  have hw := ws_get (E := E) (h := h) (I := I) (L := L) ha
  have zz : ∀ b, h.2.2 ≤ b → (∀ j, I' b j = 0) ∧ (∀ j, L' b j = 0) ∧ ∀ j, h'.2.1 b j = none := fun b hb => by
    obtain ⟨c1, c2, c3⟩ := hc b (by omega)
    rw [c1, c2, c3]
    exact P.2.2 b hb
  rcases fl with ⟨C, T, N, hC, hi, hO, hl, hfin⟩ | ⟨⟨T, N, hC, hi, hO, hl, hfin⟩, hini⟩
  · have hck : ∀ b, b ≠ a → cel E h' I' L' b = cel E h I L b := fun b hb => cel_congr (by rw [h0]) (hc b hb).1 (hc b hb).2.1 (hc b hb).2.2
    rw [cel_k hk hC.2.2.2.2.2] at hw
    have hap := va_apart (own := M.1.cls) F.2.2.2.2.1 hC.2.1 (tyOf ci) hC.2.2.1 hC.2.2.2.1 S.1 hC.1
    obtain ⟨r, h1, cell, q1, q2, q3, q4⟩ := P.1 a _ hw
    have hr : r = (C, T, N) := Option.some.inj (h1.symm.trans hC.1)
    subst hr
    obtain ⟨hS, hfc, kC, hkC, hkind⟩ := S.1.1 ci _ hC.1
    obtain ⟨cf, kf, fi, f, hfi, hsl⟩ := hS i hi
    have hlay := F.2.2.2.2.1 _ (hC.2.1 _ (u_in_lay hi))
    unfold u_lay at hlay
    rw [if_neg (by rw [hfin]; decide)] at hlay
    have hst := (u_facts hfc hkC (u_lays F.2.2.2.2.1 hC.2.1 hi) hfi).1
    have h6 := u_store hfc hkC hkind hlay hfi (hC.2.2.1 i hi) hnar hfit
    have hlink := F.2.2.2.2.1 _ hl
    refine W.putK F.1 F.2.1 (f := f) ⟨F.2.2.2.1, hlink, ⟨_, _, _, by rw [hO] at hfi; exact hfi⟩, hst⟩ (by rw [q2]; exact h6) q1 q3 (by rw [hsl]; exact k2_hasslot (q4 i hi)) rfl rfl hd fun H' e1 e2 e3 => ?_
    rw [hsl] at e1 ⊢
    refine k p e R s m args below meth c Z H' _ cells slots ls F h2 h3 h4 (S.put e3) (P.put (e := .inr (ci, (fvs (eB E) ci h.2.1 I L a).set i v)) ha hn ?_ hck e2 e3 zz) (V.put e2 e3 (by show eB E ≤ eB E + a; omega)) h8 h9 h10
    rw [cel_k (h := h') (by rw [h0]; exact hk) hC.2.2.2.2.2, ← hf]
    exact ⟨_, hC.1, t_OB.to (V := updV (vp_V (fvs (eB E) ci h.2.1 I L a)) i v) ⟨_, e1, q2, q3, t_set q4 hap hi v⟩ (fun j _ => vp_updV_set (by rw [fvs_len, hC.2.2.2.2.1]; exact hi) v j)⟩
  · have hck : ∀ b, b ≠ a → cel E h' I' L' b = cel E h I L b := fun b hb => cel_congr (by rw [h0]) (hc b hb).1 (hc b hb).2.1 (hc b hb).2.2
    rw [cel_k hk hC.2.2.2.2.2] at hw
    have hap := va_apart (own := M.1.cls) F.2.2.2.2.1 hC.2.1 (tyOf ci) hC.2.2.1 hC.2.2.2.1 S.1 hC.1
    obtain ⟨r, h1, cell, q1, q2, q3, q4⟩ := P.1 a _ hw
    have hr : r = (M.1.cls, T, N) := Option.some.inj (h1.symm.trans hC.1)
    subst hr
    obtain ⟨hS, hfc, kC, hkC, hkind⟩ := S.1.1 ci _ hC.1
    obtain ⟨cf, kf, fi, f, hfi, hsl⟩ := hS i hi
    have hlay := F.2.2.2.2.1 _ (hC.2.1 _ (u_in_lay hi))
    unfold u_lay at hlay
    rw [if_pos hfin] at hlay
    have hst := (u_facts hfc hkC (u_lays F.2.2.2.2.1 hC.2.1 hi) hfi).1
    have hcf : m.cls = cf := by
      obtain ⟨_, _, c', _, _, _, -, -, hf', -, -, -, hown2, -⟩ := Cond.laysFinal_spec hlay
      have e1 : c' = cf := by have := hfi.symm.trans hf'; simp at this; exact this.1.symm
      rw [hO] at hown2
      rw [← e1]; exact Option.some.inj (F.2.2.2.1.symm.trans hown2)
    have h6 := u_fits hfc hkC hkind (Or.inr hlay) hfi (hC.2.2.1 i hi) hnar hfit
    have hlink := F.2.2.2.2.1 _ hl
    refine W.putFinK F.1 F.2.1 F.2.2.2.1 hlink (by rw [hO] at hfi; exact hfi) hst hcf (F.2.2.2.2.2.1.trans hini) (by rw [q2]; exact h6) q1 q3 (by rw [hsl]; exact k2_hasslot (q4 i hi)) rfl rfl hd fun H' e1 e2 e3 => ?_
    rw [hsl] at e1 ⊢
    refine k p e R s m args below meth c Z H' _ cells slots ls F h2 h3 h4 (S.put e3) (P.put (e := .inr (ci, (fvs (eB E) ci h.2.1 I L a).set i v)) ha hn ?_ hck e2 e3 zz) (V.put e2 e3 (by show eB E ≤ eB E + a; omega)) h8 h9 h10
    rw [cel_k (h := h') (by rw [h0]; exact hk) hC.2.2.2.2.2, ← hf]
    exact ⟨_, hC.1, t_OB.to (V := updV (vp_V (fvs (eB E) ci h.2.1 I L a)) i v) ⟨_, e1, q2, q3, t_set q4 hap hi v⟩ (fun j _ => vp_updV_set (by rw [fvs_len, hC.2.2.2.2.1]; exact hi) v j)⟩
end JH
