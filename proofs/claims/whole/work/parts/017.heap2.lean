theorem fvs_setI {B k : Nat} {R : mR} {I : mI} {L : mL} {a i : Nat} {x : Int32} (ht : iTy (tyOf k i) = true) : (fvs B k R I L a).set i (.int x) = fvs B k R (uI I a i x) L a := by
  apply List.ext_getElem?
  intro j
  by_cases hj : j < nfOf k
  · rw [fvs_get hj]
    by_cases hji : j = i
    · subst hji
      rw [List.getElem?_set_self (by rw [fvs_len]; exact hj), fv_int ht]
      simp [uI]
    · rw [List.getElem?_set_ne (Ne.symm hji), fvs_get hj]
      unfold fv
      simp [uI, hji]
  · rw [List.getElem?_eq_none (by rw [List.length_set, fvs_len]; omega), List.getElem?_eq_none (by rw [fvs_len]; omega)]
theorem fvs_setL {B k : Nat} {R : mR} {I : mI} {L : mL} {a i : Nat} {x : Int64} (ht : tyOf k i = .long) : (fvs B k R I L a).set i (.long x) = fvs B k R I (uL L a i x) a := by
  apply List.ext_getElem?
  intro j
  by_cases hj : j < nfOf k
  · rw [fvs_get hj]
    by_cases hji : j = i
    · subst hji
      rw [List.getElem?_set_self (by rw [fvs_len]; exact hj), ht]
      simp [uL, fv]
    · rw [List.getElem?_set_ne (Ne.symm hji), fvs_get hj]
      unfold fv
      simp [uL, hji]
  · rw [List.getElem?_eq_none (by rw [List.length_set, fvs_len]; omega), List.getElem?_eq_none (by rw [fvs_len]; omega)]
theorem fvs_setR {B k : Nat} {R : mR} {I : mI} {L : mL} {a i : Nat} {r : Option Nat} (ht : rTy (tyOf k i) = true) : (fvs B k R I L a).set i (rlf B r) = fvs B k (uR R a i r) I L a := by
  apply List.ext_getElem?
  intro j
  by_cases hj : j < nfOf k
  · rw [fvs_get hj]
    by_cases hji : j = i
    · subst hji
      rw [List.getElem?_set_self (by rw [fvs_len]; exact hj), fv_ref ht]
      simp [uR]
    · rw [List.getElem?_set_ne (Ne.symm hji), fvs_get hj]
      unfold fv
      simp [uR, hji]
  · rw [List.getElem?_eq_none (by rw [List.length_set, fvs_len]; omega), List.getElem?_eq_none (by rw [fvs_len]; omega)]
theorem ref_nar {ty : FieldType} {B : Nat} {r : Option Nat} (h : rTy ty = true) : narrow ty (rlf B r) = rlf B r ∧ fits ty (rlf B r) = true := by
  cases ty <;> first | (simp [rTy] at h; done) | (cases r <;> exact ⟨rfl, rfl⟩)
def bz (x : Int32) : Prop := x = 0 ∨ x = 1
theorem bz_nar {x : Int32} (h : bz x) : narrow .boolean (.int x) = .int x := by rcases h with rfl | rfl <;> decide
theorem bz_vp {x : Int32} (h : bz x) : vp_nar .boolean x = x := by rcases h with rfl | rfl <;> decide
theorem bz_fit {x : Int32} (h : bz x) : fits .boolean (.int x) = true := by rcases h with rfl | rfl <;> decide
abbrev uRh (h : mS) (a i : Nat) (r : Option Nat) : mS := (h.1, uR h.2.1 a i r, h.2.2)
abbrev nw (h : mS) (k n : Nat) : mS := (fun b => if b = h.2.2 then (k, n) else h.1 b, h.2.1, h.2.2 + 1)
section JH2
variable {E : Envt} {M : Mth} {d : Nat} {Qp : Pst} {bc bs pc : Nat} {vs : List (Option Value)} {st : List Value} {h : mS} {I : mI} {L : mL}
theorem J.putI {index ci i a n : Nat} {x : Int32} (fl : FLw M.1.cls index ci i) (ht : tyOf ci i = .int) (hd : decode M.2.1 pc = .ok (.putfield index, 3)) (ha : a < h.2.2) (hk : h.1 a = (ci, n))
    (k : J E M d Qp bc bs (pc + 3) vs st h (uI I a i x) L) : J E M d Qp bc bs pc vs (.int x :: .ref (eB E + a) :: st) h I L :=
  J.putV (Or.inl fl) hd ha hk (by rw [ht]; rfl) (by rw [ht]; rfl) rfl rfl (fvs_setI (by rw [ht]; rfl)) (fun b hb => ⟨rfl, uI_ne hb, rfl⟩) k
theorem J.putIf {index ci i a n : Nat} {x : Int32} (fl : FLf M.1.cls index ci i) (hi : M.1.name = "<init>") (ht : tyOf ci i = .int) (hd : decode M.2.1 pc = .ok (.putfield index, 3)) (ha : a < h.2.2) (hk : h.1 a = (ci, n))
    (k : J E M d Qp bc bs (pc + 3) vs st h (uI I a i x) L) : J E M d Qp bc bs pc vs (.int x :: .ref (eB E + a) :: st) h I L :=
  J.putV (Or.inr ⟨fl, hi⟩) hd ha hk (by rw [ht]; rfl) (by rw [ht]; rfl) rfl rfl (fvs_setI (by rw [ht]; rfl)) (fun b hb => ⟨rfl, uI_ne hb, rfl⟩) k
theorem J.putZ {index ci i a n : Nat} {x : Int32} (fl : FLw M.1.cls index ci i) (ht : tyOf ci i = .boolean) (hx : bz x) (hd : decode M.2.1 pc = .ok (.putfield index, 3)) (ha : a < h.2.2) (hk : h.1 a = (ci, n))
    (k : J E M d Qp bc bs (pc + 3) vs st h (uI I a i x) L) : J E M d Qp bc bs pc vs (.int x :: .ref (eB E + a) :: st) h I L :=
  J.putV (Or.inl fl) hd ha hk (by rw [ht]; exact bz_nar hx) (by rw [ht]; exact bz_fit hx) rfl rfl (fvs_setI (by rw [ht]; rfl)) (fun b hb => ⟨rfl, uI_ne hb, rfl⟩) k
theorem J.putL {index ci i a n : Nat} {x : Int64} (fl : FLw M.1.cls index ci i) (ht : tyOf ci i = .long) (hd : decode M.2.1 pc = .ok (.putfield index, 3)) (ha : a < h.2.2) (hk : h.1 a = (ci, n))
    (k : J E M d Qp bc bs (pc + 3) vs st h I (uL L a i x)) : J E M d Qp bc bs pc vs (.long x :: .ref (eB E + a) :: st) h I L :=
  J.putV (Or.inl fl) hd ha hk (by rw [ht]; rfl) (by rw [ht]; rfl) rfl rfl (fvs_setL ht) (fun b hb => ⟨rfl, rfl, uL_ne hb⟩) k
theorem J.putRf {index ci i a n r : Nat} (fl : FLf M.1.cls index ci i) (hi : M.1.name = "<init>") (ht : rTy (tyOf ci i) = true) (hd : decode M.2.1 pc = .ok (.putfield index, 3)) (ha : a < h.2.2) (hk : h.1 a = (ci, n))
    (k : J E M d Qp bc bs (pc + 3) vs st (uRh h a i (some r)) I L) : J E M d Qp bc bs pc vs (.ref (eB E + r) :: .ref (eB E + a) :: st) h I L :=
  J.putV (v := rlf (eB E) (some r)) (h' := uRh h a i (some r)) (Or.inr ⟨fl, hi⟩) hd ha hk (ref_nar ht).1 (ref_nar ht).2 rfl rfl (fvs_setR ht) (fun b hb => ⟨uR_ne hb, rfl, rfl⟩) k
/-! arrays -/
theorem J.iald {a n : Nat} {i x : Int32} (hd : decode M.2.1 pc = .ok (.iaload, 1)) (ha : a < h.2.2) (hk : h.1 a = (14, n)) (hin : vp_in i n) (hx : I a i.toNatClampNeg = x) (k : J E M d Qp bc bs (pc + 1) vs (.int x :: st) h I L) : J E M d Qp bc bs pc vs (.int i :: .ref (eB E + a) :: st) h I L := by
  subst hx
  exact J.go (fun p e R s m args below meth c Z H locs cells slots ls F S P V hl k => va_iald F.1 F.2.1 S.1 P.1 a 1 (by rw [ws_get ha, cel_I hk]) rfl hin hd k) k
theorem J.bald {a n : Nat} {i x : Int32} (hd : decode M.2.1 pc = .ok (.baload, 1)) (ha : a < h.2.2) (hk : h.1 a = (13, n)) (hin : vp_in i n) (hx : I a i.toNatClampNeg = x) (k : J E M d Qp bc bs (pc + 1) vs (.int x :: st) h I L) : J E M d Qp bc bs pc vs (.int i :: .ref (eB E + a) :: st) h I L := by
  subst hx
  exact J.go (fun p e R s m args below meth c Z H locs cells slots ls F S P V hl k => va_bald F.1 F.2.1 S.1 P.1 a 0 (by rw [ws_get ha, cel_B hk]) rfl hin hd k) k
theorem J.zald {a n : Nat} {i x : Int32} (hd : decode M.2.1 pc = .ok (.baload, 1)) (ha : a < h.2.2) (hk : h.1 a = (16, n)) (hin : vp_in i n) (hx : I a i.toNatClampNeg = x) (k : J E M d Qp bc bs (pc + 1) vs (.int x :: st) h I L) : J E M d Qp bc bs pc vs (.int i :: .ref (eB E + a) :: st) h I L := by
  subst hx
  exact J.go (fun p e R s m args below meth c Z H locs cells slots ls F S P V hl k => va_zald F.1 F.2.1 S.1 P.1 a 3 (by rw [ws_get ha, cel_Z hk]) rfl hin hd k) k
theorem J.lald {a n : Nat} {i : Int32} {x : Int64} (hd : decode M.2.1 pc = .ok (.laload, 1)) (ha : a < h.2.2) (hk : h.1 a = (15, n)) (hin : vp_in i n) (hx : L a i.toNatClampNeg = x) (k : J E M d Qp bc bs (pc + 1) vs (.long x :: st) h I L) : J E M d Qp bc bs pc vs (.int i :: .ref (eB E + a) :: st) h I L := by
  subst hx
  exact J.go (fun p e R s m args below meth c Z H locs cells slots ls F S P V hl k => va_lald F.1 F.2.1 S.1 P.1 a 2 (by rw [ws_get ha, cel_J hk]) rfl hin hd k) k
theorem J.aald {a n ck : Nat} {i : Int32} {v : Value} (hd : decode M.2.1 pc = .ok (.aaload, 1)) (ha : a < h.2.2) (hk : h.1 a = (ck, n)) (hck : ck = 17 ∨ ck = 18) (hin : vp_in i n) (hx : rlf (eB E) (h.2.1 a i.toNatClampNeg) = v) (k : J E M d Qp bc bs (pc + 1) vs (v :: st) h I L) : J E M d Qp bc bs pc vs (.int i :: .ref (eB E + a) :: st) h I L := by
  subst hx
  rcases hck with rfl | rfl
  · exact J.go (fun p e R s m args below meth c Z H locs cells slots ls F S P V hl k => va_aldq (C := RX0) (f := fun j => (h.2.1 a j).map (fun r => eB E + r)) F.1 F.2.1 S.1 P.1 a 4 (by rw [ws_get ha, cel_R hk]) rfl hin hd k) k
  · exact J.go (fun p e R s m args below meth c Z H locs cells slots ls F S P V hl k => va_aldq (C := RX10) (f := fun j => (h.2.1 a j).map (fun r => eB E + r)) F.1 F.2.1 S.1 P.1 a 5 (by rw [ws_get ha, cel_T hk]) rfl hin hd k) k
theorem J.alen {a n ck : Nat} {v : Int32} (hd : decode M.2.1 pc = .ok (.arraylength, 1)) (ha : a < h.2.2) (hk : h.1 a = (ck, n)) (hck : 13 ≤ ck ∧ ck ≤ 18) (hv : Int32.ofNat n = v) (k : J E M d Qp bc bs (pc + 1) vs (.int v :: st) h I L) : J E M d Qp bc bs pc vs (.ref (eB E + a) :: st) h I L := by
  subst hv
  refine J.go (fun p e R s m args below meth c Z H locs cells slots ls F S P V hl k => ?_) k
  have hw := ws_get (E := E) (h := h) (I := I) (L := L) ha
  rcases (show ck = 13 ∨ ck = 14 ∨ ck = 15 ∨ ck = 16 ∨ ck = 17 ∨ ck = 18 by omega) with rfl | rfl | rfl | rfl | rfl | rfl
  · rw [cel_B hk] at hw; exact va_alen F.1 F.2.1 S.1 P.1 a 0 hw rfl rfl hd k
  · rw [cel_I hk] at hw; exact va_alen F.1 F.2.1 S.1 P.1 a 1 hw rfl rfl hd k
  · rw [cel_J hk] at hw; exact va_alen F.1 F.2.1 S.1 P.1 a 2 hw rfl rfl hd k
  · rw [cel_Z hk] at hw; exact va_alen F.1 F.2.1 S.1 P.1 a 3 hw rfl rfl hd k
  · rw [cel_R hk] at hw; exact va_alen F.1 F.2.1 S.1 P.1 a 4 hw rfl rfl hd k
  · rw [cel_T hk] at hw; exact va_alen F.1 F.2.1 S.1 P.1 a 5 hw rfl rfl hd k
theorem Hp.uI {H H1 : Heap} {a i : Nat} {x : Int32} (P : Hp E h I L H) (ha : a < h.2.2) (he : va_at (eD E) vwCl (eB E + a, cel E h (uI I a i x) L a) H1) (z : H1.size = H.size) (oq : ∀ q : Nat, q ≠ eB E + a → H1[q]? = H[q]?) : Hp E h (uI I a i x) L H1 :=
  P.put (e := cel E h I L a) ha rfl he (fun b hb => cel_congr rfl rfl (uI_ne hb) rfl) z oq (fun b hb => by rw [uI_ne (by omega)]; exact P.2.2 b hb)
theorem J.iast {a n : Nat} {i x : Int32} (hd : decode M.2.1 pc = .ok (.iastore, 1)) (ha : a < h.2.2) (hk : h.1 a = (14, n)) (hin : vp_in i n) (k : J E M d Qp bc bs (pc + 1) vs st h (uI I a i.toNatClampNeg x) L) : J E M d Qp bc bs pc vs (.int x :: .int i :: .ref (eB E + a) :: st) h I L := by
  intro p e R s m args below meth c Z H locs cells slots ls F h2 h3 h4 S P V h8 h9 h10
  have hw := ws_get (E := E) (h := h) (I := I) (L := L) ha
  rw [cel_I hk] at hw
  refine W.iast F.1 F.2.1 (P.1 a _ hw) ((S.1.2 1 _ rfl).1 n (fun j => .int (I a j))) (fun q => by cases q) (by show ¬ (i < 0 ∨ (arrV _ _ _).slots.size ≤ _); rw [arrV_size]; exact hin) rfl rfl hd fun H1 e1 z oq => ?_
  refine k p e R s m args below meth c Z H1 _ cells slots ls F h2 h3 h4 (S.put oq) (P.uI ha ?_ z oq) (V.put z oq (by show eB E ≤ eB E + a; omega)) h8 h9 h10
  rw [cel_I hk]
  show H1[eB E + a]? = some (vp_cell _ _)
  rw [e1, vp_cell_i, vp_cell_i, arrV_store]
  congr 2
  funext q
  by_cases hq : q = i.toNatClampNeg
  · subst hq; simp [updV, uI]
  · simp [updV, uI, hq]
theorem J.zast {a n : Nat} {i x : Int32} (hd : decode M.2.1 pc = .ok (.bastore, 1)) (ha : a < h.2.2) (hk : h.1 a = (16, n)) (hin : vp_in i n) (hx : bz x) (k : J E M d Qp bc bs (pc + 1) vs st h (uI I a i.toNatClampNeg x) L) : J E M d Qp bc bs pc vs (.int x :: .int i :: .ref (eB E + a) :: st) h I L := by
  intro p e R s m args below meth c Z H locs cells slots ls F h2 h3 h4 S P V h8 h9 h10
  have hw := ws_get (E := E) (h := h) (I := I) (L := L) ha
  rw [cel_Z hk] at hw
  refine W.zast F.1 F.2.1 (P.1 a _ hw) ((S.1.2 3 _ rfl).1 n (fun j => .int (I a j))) (fun q => by cases q) (by show ¬ (i < 0 ∨ (arrV _ _ _).slots.size ≤ _); rw [arrV_size]; exact hin) rfl rfl hd fun H1 e1 z oq => ?_
  refine k p e R s m args below meth c Z H1 _ cells slots ls F h2 h3 h4 (S.put oq) (P.uI ha ?_ z oq) (V.put z oq (by show eB E ≤ eB E + a; omega)) h8 h9 h10
  rw [cel_Z hk]
  show H1[eB E + a]? = some (vp_cell _ _)
  rw [e1, vp_cell_i, vp_cell_i, arrV_store]
  congr 2
  funext q
  by_cases hq : q = i.toNatClampNeg
  · subst hq; simp [updV, uI, bz_nar hx]
  · simp [updV, uI, hq]
theorem J.bast {a n : Nat} {i x : Int32} (hd : decode M.2.1 pc = .ok (.bastore, 1)) (ha : a < h.2.2) (hk : h.1 a = (13, n)) (hin : vp_in i n) (k : J E M d Qp bc bs (pc + 1) vs st h (uI I a i.toNatClampNeg x.toInt8.toInt32) L) : J E M d Qp bc bs pc vs (.int x.toInt8.toInt32 :: .int i :: .ref (eB E + a) :: st) h I L := by
  intro p e R s m args below meth c Z H locs cells slots ls F h2 h3 h4 S P V h8 h9 h10
  have hw := ws_get (E := E) (h := h) (I := I) (L := L) ha
  rw [cel_B hk] at hw
  refine W.bast F.1 F.2.1 (P.1 a _ hw) ((S.1.2 0 _ rfl).1 n (fun j => .int (I a j))) (fun q => by cases q) (by show ¬ (i < 0 ∨ (arrV _ _ _).slots.size ≤ _); rw [arrV_size]; exact hin) rfl rfl hd fun H1 e1 z oq => ?_
  refine k p e R s m args below meth c Z H1 _ cells slots ls F h2 h3 h4 (S.put oq) (P.uI ha ?_ z oq) (V.put z oq (by show eB E ≤ eB E + a; omega)) h8 h9 h10
  rw [cel_B hk]
  show H1[eB E + a]? = some (vp_cell _ _)
  rw [e1, vp_cell_i, vp_cell_i, arrV_store]
  congr 2
  funext q
  by_cases hq : q = i.toNatClampNeg
  · subst hq; simp [updV, uI, pk_nb]
  · simp [updV, uI, hq]
theorem J.last {a n : Nat} {i : Int32} {x : Int64} (hd : decode M.2.1 pc = .ok (.lastore, 1)) (ha : a < h.2.2) (hk : h.1 a = (15, n)) (hin : vp_in i n) (k : J E M d Qp bc bs (pc + 1) vs st h I (uL L a i.toNatClampNeg x)) : J E M d Qp bc bs pc vs (.long x :: .int i :: .ref (eB E + a) :: st) h I L := by
  intro p e R s m args below meth c Z H locs cells slots ls F h2 h3 h4 S P V h8 h9 h10
  have hw := ws_get (E := E) (h := h) (I := I) (L := L) ha
  rw [cel_J hk] at hw
  refine W.last F.1 F.2.1 (P.1 a _ hw) ((S.1.2 2 _ rfl).1 n (fun j => .long (L a j))) (fun q => by cases q) (by show ¬ (i < 0 ∨ (arrV _ _ _).slots.size ≤ _); rw [arrV_size]; exact hin) rfl rfl hd fun H1 e1 z oq => ?_
  refine k p e R s m args below meth c Z H1 _ cells slots ls F h2 h3 h4 (S.put oq) (P.put (e := cel E h I L a) ha rfl ?_ (fun b hb => cel_congr rfl rfl rfl (uL_ne hb)) z oq (fun b hb => by rw [uL_ne (by omega)]; exact P.2.2 b hb)) (V.put z oq (by show eB E ≤ eB E + a; omega)) h8 h9 h10
  rw [cel_J hk]
  show H1[eB E + a]? = some (vp_cell _ _)
  rw [e1, vp_cell_l, vp_cell_l, arrV_store]
  congr 2
  funext q
  by_cases hq : q = i.toNatClampNeg
  · subst hq; simp [updV, uL]
  · simp [updV, uL, hq]
end JH2
