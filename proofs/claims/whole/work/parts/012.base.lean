/-! memory: numbers, longs, references by relative addresses; kinds and lengths -/
abbrev mI : Type := Nat → Nat → Int32
abbrev mL : Type := Nat → Nat → Int64
abbrev mR : Type := Nat → Nat → Option Nat
abbrev mS : Type := (Nat → Nat × Nat) × mR × Nat
abbrev Envt : Type := Launch × va_G × (Nat → ClassId) × Nat × (Nat → Nat) × (Nat → Nat) × Nat × Nat × (Nat → Int32)
abbrev eL (E : Envt) : Launch := E.1
abbrev eD (E : Envt) : va_G := E.2.1
abbrev eA (E : Envt) : Nat → ClassId := E.2.2.1
abbrev eB (E : Envt) : Nat := E.2.2.2.1
abbrev eK (E : Envt) : Nat → Nat := E.2.2.2.2.1
abbrev eV (E : Envt) : Nat → Nat := E.2.2.2.2.2.1
abbrev eb (E : Envt) : Nat := E.2.2.2.2.2.2.1
abbrev eN (E : Envt) : Nat := E.2.2.2.2.2.2.2.1
abbrev ex (E : Envt) : Nat → Int32 := E.2.2.2.2.2.2.2.2
abbrev Mth : Type := MethodName × ByteArray × Nat × Option FieldType
abbrev Pst : Type := Option Value → mS → mI → mL → Prop
def tyOf : Nat → Nat → FieldType
  | 0 => tyX0 | 1 => tyX1 | 2 => tyX2 | 3 => tyX3 | 4 => tyX4 | 5 => tyX5 | 6 => tyX6 | 7 => tyX7 | 8 => tyX8 | 9 => tyX9 | 10 => tyX10 | 11 => tyX11 | 12 => tyX12
  | _ => fun _ => .int
def nfOf : Nat → Nat
  | 0 => 10 | 1 => 5 | 2 => 10 | 3 => 8 | 4 => 12 | 5 => 7 | 6 => 15 | 7 => 10 | 8 => 12 | 9 => 9 | 10 => 8 | 11 => 7 | 12 => 83
  | _ => 0
def rlf (B : Nat) (r : Option Nat) : Value := va_rf (r.map (fun a => B + a))
theorem rlf_some (B a : Nat) : rlf B (some a) = .ref (B + a) := rfl
theorem rlf_none (B : Nat) : rlf B none = .null := rfl
def fv (B : Nat) (ty : FieldType) (R : mR) (I : mI) (L : mL) (a i : Nat) : Value := match ty with
  | .long => .long (L a i)
  | .object _ => rlf B (R a i)
  | .array _ => rlf B (R a i)
  | _ => .int (I a i)
def fvs (B k : Nat) (R : mR) (I : mI) (L : mL) (a : Nat) : List Value := (List.range (nfOf k)).map (fun i => fv B (tyOf k i) R I L a i)
def cel (E : Envt) (h : mS) (I : mI) (L : mL) (a : Nat) : va_E :=
  if (h.1 a).1 = 13 then .inl (eA E 0, (h.1 a).2, .inl (I a))
  else if (h.1 a).1 = 14 then .inl (eA E 1, (h.1 a).2, .inl (I a))
  else if (h.1 a).1 = 15 then .inl (eA E 2, (h.1 a).2, .inr (.inl (L a)))
  else if (h.1 a).1 = 16 then .inl (eA E 3, (h.1 a).2, .inl (I a))
  else if (h.1 a).1 = 17 then .inl (eA E 4, (h.1 a).2, .inr (.inr (.inr (.inr (fun j => (h.2.1 a j).map (fun r => eB E + r))))))
  else if (h.1 a).1 = 18 then .inl (eA E 5, (h.1 a).2, .inr (.inr (.inr (.inr (fun j => (h.2.1 a j).map (fun r => eB E + r))))))
  else .inr ((h.1 a).1, fvs (eB E) (h.1 a).1 h.2.1 I L a)
def wsOf (E : Envt) (h : mS) (I : mI) (L : mL) : va_W := (List.range h.2.2).map (fun a => (eB E + a, cel E h I L a))
abbrev tysE (E : Envt) : List (ClassId × FieldType) := [(eA E 0, .byte), (eA E 1, .int), (eA E 2, .long), (eA E 3, .boolean), (eA E 4, .object RX0), (eA E 5, .object RX10)]
theorem ws_get {E : Envt} {h : mS} {I : mI} {L : mL} {a : Nat} (ha : a < h.2.2) : (wsOf E h I L)[a]? = some (eB E + a, cel E h I L a) := by
  unfold wsOf
  rw [List.getElem?_map, List.getElem?_range ha]
  rfl
theorem ws_lt {E : Envt} {h : mS} {I : mI} {L : mL} {k : Nat} {q : Nat × va_E} (hk : (wsOf E h I L)[k]? = some q) : k < h.2.2 ∧ q = (eB E + k, cel E h I L k) := by
  have h1 : k < h.2.2 := by
    have := (List.getElem?_eq_some_iff.mp hk).1
    simpa [wsOf] using this
  rw [ws_get h1] at hk
  exact ⟨h1, (Option.some.inj hk).symm⟩
theorem ws_D {E : Envt} {h : mS} {I : mI} {L : mL} : va_D (fun q => eB E ≤ q) (wsOf E h I L) := by
  refine ⟨fun i j p q hi hj hpq => ?_, fun k q hk => ?_⟩
  · obtain ⟨-, rfl⟩ := ws_lt hi
    obtain ⟨-, rfl⟩ := ws_lt hj
    have : eB E + i = eB E + j := hpq
    omega
  · obtain ⟨-, rfl⟩ := ws_lt hk
    show eB E ≤ eB E + k
    omega
theorem ws_set {E : Envt} {h h' : mS} {I I' : mI} {L L' : mL} {a : Nat} {e : va_E} (ha : a < h.2.2) (hn : h'.2.2 = h.2.2) (he : cel E h' I' L' a = e) (ho : ∀ b, b ≠ a → cel E h' I' L' b = cel E h I L b) : (wsOf E h I L).set a (eB E + a, e) = wsOf E h' I' L' := by
  apply List.ext_getElem?
  intro k
  by_cases hk : k = a
  · subst hk
    rw [List.getElem?_set_self (by simpa [wsOf] using ha), ws_get (by omega), he]
  · rw [List.getElem?_set_ne (Ne.symm hk)]
    by_cases hl : k < h.2.2
    · rw [ws_get hl, ws_get (by omega), ho k hk]
    · rw [List.getElem?_eq_none (by simp [wsOf]; omega), List.getElem?_eq_none (by simp [wsOf]; omega)]
theorem ws_push {E : Envt} {h h' : mS} {I I' : mI} {L L' : mL} {e : va_E} (hn : h'.2.2 = h.2.2 + 1) (he : cel E h' I' L' h.2.2 = e) (ho : ∀ b, b < h.2.2 → cel E h' I' L' b = cel E h I L b) : wsOf E h I L ++ [(eB E + h.2.2, e)] = wsOf E h' I' L' := by
  apply List.ext_getElem?
  intro k
  by_cases hk : k < h.2.2
  · rw [List.getElem?_append_left (by simpa [wsOf] using hk), ws_get hk, ws_get (by omega), ho k hk]
  · by_cases hk2 : k = h.2.2
    · subst hk2
      rw [ws_get (by omega), he, List.getElem?_append_right (by simp [wsOf])]
      simp [wsOf]
    · rw [List.getElem?_eq_none (by simp [wsOf]; omega), List.getElem?_eq_none (by simp [wsOf]; omega)]
/-! updates -/
def uI (I : mI) (a i : Nat) (v : Int32) : mI := fun b j => if b = a then (if j = i then v else I b j) else I b j
def uL (L : mL) (a i : Nat) (v : Int64) : mL := fun b j => if b = a then (if j = i then v else L b j) else L b j
def uR (R : mR) (a i : Nat) (v : Option Nat) : mR := fun b j => if b = a then (if j = i then v else R b j) else R b j
theorem uI_ne {I : mI} {a i b : Nat} {v : Int32} (h : b ≠ a) : uI I a i v b = I b := by funext j; simp [uI, h]
theorem uI_at {I : mI} {a i : Nat} {v : Int32} : uI I a i v a = upd (I a) i v := by funext j; simp [uI, upd]
theorem uL_ne {I : mL} {a i b : Nat} {v : Int64} (h : b ≠ a) : uL I a i v b = I b := by funext j; simp [uL, h]
theorem uR_ne {I : mR} {a i b : Nat} {v : Option Nat} (h : b ≠ a) : uR I a i v b = I b := by funext j; simp [uR, h]
theorem fvs_get {B k : Nat} {R : mR} {I : mI} {L : mL} {a i : Nat} (hi : i < nfOf k) : (fvs B k R I L a)[i]? = some (fv B (tyOf k i) R I L a i) := by
  unfold fvs
  rw [List.getElem?_map, List.getElem?_range hi]
  rfl
theorem fvs_len {B k : Nat} {R : mR} {I : mI} {L : mL} {a : Nat} : (fvs B k R I L a).length = nfOf k := by simp [fvs]
