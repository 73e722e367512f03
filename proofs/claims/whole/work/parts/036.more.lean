/-! shapes that grow or whose references change -/
theorem SL_uR {h : mS} {a i : Nat} {r : Option Nat} (hs : SL h) (ha : layR.all (fun q => q.1 != a) = true) : SL (uRh h a i r) := by
  refine ⟨hs.1, hs.2.1, fun q hq => ?_⟩
  have h1 := List.all_eq_true.mp ha q hq
  show uR h.2.1 a i r q.1 q.2.1 = _
  rw [uR_ne (by simpa using h1)]
  exact hs.2.2 q hq
theorem LT_uR {h : mS} {t nl nt a i : Nat} {r : Option Nat} (ht : LT h t nl nt) (ha : t ≠ a) : LT (uRh h a i r) t nl nt := by
  obtain ⟨h1, h2, h3, h4⟩ := ht
  refine ⟨h1, h2, ?_, h4⟩
  show uR h.2.1 a i r t 1 = _ ∧ uR h.2.1 a i r t 2 = _ ∧ uR h.2.1 a i r t 3 = _ ∧ uR h.2.1 a i r t 4 = _ ∧ uR h.2.1 a i r t 5 = _ ∧ uR h.2.1 a i r t 6 = _ ∧ uR h.2.1 a i r t 7 = _
  rw [uR_ne ha]
  exact h3
theorem nw_k {h : mS} {a k n : Nat} {q : Nat × Nat} (hl : a < h.2.2) (hk : h.1 a = q) : (nw h k n).1 a = q := by
  show (if a = h.2.2 then (k, n) else h.1 a) = q
  rw [if_neg (by omega)]
  exact hk
theorem nw_lt {h : mS} {a k n : Nat} (hl : a < h.2.2) : a < (nw h k n).2.2 := by show a < h.2.2 + 1; omega
theorem SL_nw {h : mS} {k n : Nat} (hs : SL h) : SL (nw h k n) := by
  obtain ⟨h1, h2, h3⟩ := hs
  exact ⟨by show _ ≤ h.2.2 + 1; omega, fun a ha => nw_k (by omega) (h2 a ha), h3⟩
theorem LT_nw {h : mS} {t nl nt k n : Nat} (ht : LT h t nl nt) : LT (nw h k n) t nl nt := by
  obtain ⟨h1, ⟨a0, a1, a2, a3, a4, a5, a6, a7⟩, h3, h4⟩ := ht
  exact ⟨by show _ ≤ h.2.2 + 1; omega, ⟨nw_k (by omega) a0, nw_k (by omega) a1, nw_k (by omega) a2, nw_k (by omega) a3, nw_k (by omega) a4, nw_k (by omega) a5, nw_k (by omega) a6, nw_k (by omega) a7⟩, h3, h4⟩
def gt (E : Envt) (f : Nat → mS → mI → mL → Prop) : Pst := fun r h' I' L' => ∃ t, r = some (.ref (eB E + t)) ∧ f t h' I' L'
theorem kgt {E : Envt} {M M' : Mth} {d0 d bc bs bc' bs' pc : Nat} {Qp : Pst} {vs : List (Option Value)} {st av : List Value} {h : mS} {I : mI} {L : mL} {f : Nat → mS → mI → mL → Prop} (hc : CT E M' d0 bc' bs' av h I L (gt E f)) (k : ∀ a h' I' L', f a h' I' L' → J E M d Qp bc bs pc vs (.ref (eB E + a) :: st) h' I' L') : CT E M' d0 bc' bs' av h I L (fun r h' I' L' => J E M d Qp bc bs pc vs (r.toList ++ st) h' I' L') := hc.mono (fun r h' I' L' hq => by obtain ⟨v, rfl, hf⟩ := hq; exact k v h' I' L' hf)
theorem LT_ne {h : mS} {t nl nt a n k : Nat} (ht : LT h t nl nt) (hk : h.1 a = (k + 11, n)) : t ≠ a := by
  intro e
  have h1 := ht.k0
  rw [e, hk] at h1
  simp at h1
theorem nk_X0_11 : (RX0, 11, yX1_init) ∈ nestW := List.mem_of_getElem? (i := 0) rfl
theorem nk_X0_20 : (RX0, 20, yX7_init) ∈ nestW := List.mem_of_getElem? (i := 1) rfl
theorem nk_X5_36 : (RX5, 36, yX11_copy) ∈ nestW := List.mem_of_getElem? (i := 2) rfl
theorem nk_X0_34 : (RX0, 34, yX4_init) ∈ nestW := List.mem_of_getElem? (i := 3) rfl
theorem nk_X3_78 : (RX3, 78, yX11_clearRow) ∈ nestW := List.mem_of_getElem? (i := 4) rfl
theorem nk_X8_62 : (RX8, 62, yX11_copy) ∈ nestW := List.mem_of_getElem? (i := 5) rfl
theorem nk_X8_85 : (RX8, 85, yX11_copyFlags) ∈ nestW := List.mem_of_getElem? (i := 6) rfl
theorem nk_X2_59 : (RX2, 59, yX11_bit) ∈ nestW := List.mem_of_getElem? (i := 7) rfl
theorem nk_X9_103 : (RX9, 103, yX11_copy) ∈ nestW := List.mem_of_getElem? (i := 8) rfl
theorem nk_X1_34 : (RX1, 34, yX11_copy) ∈ nestW := List.mem_of_getElem? (i := 9) rfl
theorem nk_X7_55 : (RX7, 55, yX11_copy) ∈ nestW := List.mem_of_getElem? (i := 10) rfl
theorem nk_X7_59 : (RX7, 59, yX11_copyFlags) ∈ nestW := List.mem_of_getElem? (i := 11) rfl
theorem nk_X4_70 : (RX4, 70, yX11_copy) ∈ nestW := List.mem_of_getElem? (i := 12) rfl
theorem nk_X4_74 : (RX4, 74, yX11_copyTexts) ∈ nestW := List.mem_of_getElem? (i := 13) rfl
theorem nk_X0_82 : (RX0, 82, yX11_copyTexts) ∈ nestW := List.mem_of_getElem? (i := 14) rfl
theorem J.bast2 {E : Envt} {M : Mth} {d : Nat} {Qp : Pst} {bc bs pc : Nat} {vs : List (Option Value)} {st : List Value} {h : mS} {I : mI} {L : mL} {a n : Nat} {i x : Int32} (hd : decode M.2.1 pc = .ok (.bastore, 1)) (ha : a < h.2.2) (hk : h.1 a = (13, n)) (hin : vp_in i n) (hx : x.toInt8.toInt32 = x) (k : J E M d Qp bc bs (pc + 1) vs st h (uI I a i.toNatClampNeg x) L) : J E M d Qp bc bs pc vs (.int x :: .int i :: .ref (eB E + a) :: st) h I L := by
  have h1 := J.bast (x := x) (st := st) (vs := vs) (E := E) (d := d) (Qp := Qp) (bc := bc) (bs := bs) (I := I) (L := L) hd ha hk hin
  rw [hx] at h1
  exact h1 k
theorem bI_true {i : Decidable True} : @bI True i = 1 := bI_t trivial
theorem bI_false {i : Decidable False} : @bI False i = 0 := bI_f (fun h => h)
