/-! a cell's contents as a whole -/
def sA (I : mI) (a : Nat) (f : Nat → Int32) : mI := fun b => if b = a then f else I b
theorem sA_at {I : mI} {a : Nat} {f : Nat → Int32} : sA I a f a = f := by simp [sA]
theorem sA_ne {I : mI} {a b : Nat} {f : Nat → Int32} (h : b ≠ a) : sA I a f b = I b := by simp [sA, h]
theorem uI_s {I : mI} {a i : Nat} {x : Int32} : uI I a i x = sA I a (upd (I a) i x) := by
  funext b j
  by_cases h : b = a
  · subst h; simp [uI, sA, upd]
  · simp [uI, sA, h]
theorem sA_sA {I : mI} {a : Nat} {f g : Nat → Int32} : sA (sA I a f) a g = sA I a g := by
  funext b
  by_cases h : b = a <;> simp [sA, h]
theorem uI_sA {I : mI} {a i : Nat} {f : Nat → Int32} {x : Int32} : uI (sA I a f) a i x = sA I a (upd f i x) := by rw [uI_s, sA_sA, sA_at]
theorem sA_id {I : mI} {a : Nat} : sA I a (I a) = I := by
  funext b
  by_cases h : b = a
  · subst h; simp [sA]
  · simp [sA, h]
/-- what a query of the reference leaves; what one of the component leaves -/
def FrM (I I' : mI) : Prop := ∀ a, a < 83 ∨ (84 ≤ a ∧ a ≤ 122) ∨ 146 ≤ a → I' a = I a
def FrC (I I' : mI) : Prop := ∀ a, a < 56 ∨ 83 ≤ a → I' a = I a
theorem FrM.rf {I : mI} : FrM I I := fun _ _ => rfl
theorem FrC.rf {I : mI} : FrC I I := fun _ _ => rfl
theorem FrM.tr {I J K : mI} (h : FrM I J) (k : FrM J K) : FrM I K := fun a ha => (k a ha).trans (h a ha)
theorem FrC.tr {I J K : mI} (h : FrC I J) (k : FrC J K) : FrC I K := fun a ha => (k a ha).trans (h a ha)
theorem FrM.s {I : mI} {a : Nat} {f : Nat → Int32} (h : a = 83 ∨ (123 ≤ a ∧ a ≤ 145) := by omega) : FrM I (sA I a f) := fun b hb => sA_ne (by omega)
theorem FrC.s {I : mI} {a : Nat} {f : Nat → Int32} (h : 56 ≤ a ∧ a < 83 := by omega) : FrC I (sA I a f) := fun b hb => sA_ne (by omega)
theorem FrM.u {I : mI} {a i : Nat} {x : Int32} (h : a = 83 ∨ (123 ≤ a ∧ a ≤ 145) := by omega) : FrM I (uI I a i x) := fun b hb => uI_ne (by omega)
theorem FrC.u {I : mI} {a i : Nat} {x : Int32} (h : 56 ≤ a ∧ a < 83 := by omega) : FrC I (uI I a i x) := fun b hb => uI_ne (by omega)
/-- the reference's slot 0 is V -/
def MV (I V : mI) : Prop := ∀ a, 84 ≤ a → a ≤ 122 → I a = V a
theorem MV.fr {I I' V : mI} (h : MV I V) (f : FrM I I') : MV I' V := fun a h1 h2 => (f a (by omega)).trans (h a h1 h2)
theorem qv_i {h : mS} {I : mI} {L : mL} {f : mI → Prop} (k : f I) : qv h L f none h I L := ⟨rfl, rfl, rfl, k⟩
theorem qi_i {h : mS} {I : mI} {L : mL} {v : Int32} {f : Int32 → mI → Prop} (k : f v I) : qi h L f (some (.int v)) h I L := ⟨rfl, rfl, v, rfl, k⟩
theorem qt_i {E : Envt} {h : mS} {I : mI} {L : mL} {t : Nat} {f : Nat → mI → Prop} (k : f t I) : qt E h L f (some (.ref (eB E + t))) h I L := ⟨rfl, rfl, t, rfl, k⟩
theorem ql_i {h : mS} {I : mI} {L : mL} {v : Int64} {f : Int64 → mI → Prop} (k : f v I) : ql h L f (some (.long v)) h I L := ⟨rfl, rfl, v, rfl, k⟩
theorem qiL_i {h : mS} {I : mI} {L : mL} {v : Int32} {f : Int32 → mI → mL → Prop} (k : f v I L) : qiL h f (some (.int v)) h I L := ⟨rfl, v, rfl, k⟩
theorem qvL_i {h : mS} {I : mI} {L : mL} {f : mI → mL → Prop} (k : f I L) : qvL h f none h I L := ⟨rfl, rfl, k⟩
theorem gi_i {h : mS} {I : mI} {L : mL} {v : Int32} {f : Int32 → mS → mI → mL → Prop} (k : f v h I L) : gi f (some (.int v)) h I L := ⟨v, rfl, k⟩
theorem gv_i {h : mS} {I : mI} {L : mL} {f : mS → mI → mL → Prop} (k : f h I L) : gv f none h I L := ⟨rfl, k⟩
theorem gt_i {E : Envt} {h : mS} {I : mI} {L : mL} {t : Nat} {f : Nat → mS → mI → mL → Prop} (k : f t h I L) : gt E f (some (.ref (eB E + t))) h I L := ⟨t, rfl, k⟩
