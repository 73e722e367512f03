/-! a group of the book changes only with what it reads -/
theorem WfS.cv {V V' : mI} (w : WfS V) (eV : ∀ a, a = 84 ∨ a = 85 ∨ a = 88 → V' a = V a) : WfS V' := by
  have e84 := eV 84 (by omega)
  have e85 := eV 85 (by omega)
  have e88 := eV 88 (by omega)
  unfold WfS cY cT at w ⊢
  simp only [e84, e85, e88]
  exact w
theorem WfH.cv {V V' : mI} (w : WfH V) (eV : ∀ a, a = 90 ∨ a = 92 ∨ a = 94 → V' a = V a) : WfH V' := by
  have e90 := eV 90 (by omega)
  have e92 := eV 92 (by omega)
  have e94 := eV 94 (by omega)
  unfold WfH cH fdB at w ⊢
  simp only [e90, e92, e94]
  exact w
theorem WfP.cv {V V' : mI} (w : WfP V) (eV : ∀ a, a = 95 ∨ a = 96 ∨ a = 97 ∨ a = 98 ∨ a = 99 ∨ a = 100 ∨ a = 101 ∨ a = 102 ∨ a = 103 → V' a = V a) : WfP V' := by
  have e95 := eV 95 (by omega)
  have e96 := eV 96 (by omega)
  have e97 := eV 97 (by omega)
  have e98 := eV 98 (by omega)
  have e99 := eV 99 (by omega)
  have e100 := eV 100 (by omega)
  have e101 := eV 101 (by omega)
  have e102 := eV 102 (by omega)
  have e103 := eV 103 (by omega)
  unfold WfP cP at w ⊢
  simp only [e95, e96, e97, e98, e99, e100, e101, e102, e103]
  exact w
theorem WfN.cv {V V' : mI} (w : WfN V) (eV : ∀ a, a = 95 ∨ a = 99 ∨ a = 104 ∨ a = 105 → V' a = V a) : WfN V' := by
  have e95 := eV 95 (by omega)
  have e99 := eV 99 (by omega)
  have e104 := eV 104 (by omega)
  have e105 := eV 105 (by omega)
  unfold WfN cP cN at w ⊢
  simp only [e95, e99, e104, e105]
  exact w
theorem WfR.cv {V V' : mI} (w : WfR V) (eV : ∀ a, a = 89 → V' a = V a) : WfR V' := by
  have e89 := eV 89 (by omega)
  unfold WfR at w ⊢
  simp only [e89]
  exact w
theorem WfM.cv {V V' : mI} (w : WfM V) (eV : ∀ a, a = 95 ∨ a = 97 ∨ a = 106 ∨ a = 107 ∨ a = 108 ∨ a = 109 ∨ a = 110 ∨ a = 111 ∨ a = 112 → V' a = V a) : WfM V' := by
  have e95 := eV 95 (by omega)
  have e97 := eV 97 (by omega)
  have e106 := eV 106 (by omega)
  have e107 := eV 107 (by omega)
  have e108 := eV 108 (by omega)
  have e109 := eV 109 (by omega)
  have e110 := eV 110 (by omega)
  have e111 := eV 111 (by omega)
  have e112 := eV 112 (by omega)
  unfold WfM cP cM opB at w ⊢
  simp only [e95, e97, e106, e107, e108, e109, e110, e111, e112]
  exact w
theorem WfT.cv {V V' : mI} (w : WfT V) (eV : ∀ a, a = 116 ∨ a = 117 ∨ a = 118 ∨ a = 119 ∨ a = 120 ∨ a = 121 ∨ a = 122 → V' a = V a) : WfT V' := by
  have e116 := eV 116 (by omega)
  have e117 := eV 117 (by omega)
  have e118 := eV 118 (by omega)
  have e119 := eV 119 (by omega)
  have e120 := eV 120 (by omega)
  have e121 := eV 121 (by omega)
  have e122 := eV 122 (by omega)
  unfold WfT at w ⊢
  simp only [e116, e117, e118, e119, e120, e121, e122]
  exact w
theorem WfW.cv {V V' : mI} (w : WfW V) (eV : ∀ a, a = 115 → V' a = V a) : WfW V' := by
  have e115 := eV 115 (by omega)
  unfold WfW at w ⊢
  simp only [e115]
  exact w
theorem BkS.cv {I I' V V' : mI} {b : Nat} (w : BkS I b V) (eV : ∀ a, a = 84 ∨ a = 85 ∨ a = 86 ∨ a = 87 ∨ a = 88 → V' a = V a) (eI : ∀ a, a = b ∨ a = b + 36 → I' a = I a) : BkS I' b V' := by
  have e84 := eV 84 (by omega)
  have e85 := eV 85 (by omega)
  have e86 := eV 86 (by omega)
  have e87 := eV 87 (by omega)
  have e88 := eV 88 (by omega)
  have i0 := eI (b) (by omega)
  have i36 := eI (b + 36) (by omega)
  unfold BkS cT at w ⊢
  simp only [e84, e85, e86, e87, e88, i0, i36]
  exact w
theorem BkH.cv {I I' V V' : mI} {b : Nat} (w : BkH I b V) (eV : ∀ a, a = 90 ∨ a = 91 ∨ a = 92 ∨ a = 93 ∨ a = 94 → V' a = V a) (eI : ∀ a, a = b + 1 ∨ a = b + 2 ∨ a = b + 3 ∨ a = b + 4 ∨ a = b + 5 → I' a = I a) : BkH I' b V' := by
  have e90 := eV 90 (by omega)
  have e91 := eV 91 (by omega)
  have e92 := eV 92 (by omega)
  have e93 := eV 93 (by omega)
  have e94 := eV 94 (by omega)
  have i1 := eI (b + 1) (by omega)
  have i2 := eI (b + 2) (by omega)
  have i3 := eI (b + 3) (by omega)
  have i4 := eI (b + 4) (by omega)
  have i5 := eI (b + 5) (by omega)
  unfold BkH at w ⊢
  simp only [e90, e91, e92, e93, e94, i1, i2, i3, i4, i5]
  exact w
theorem BkP.cv {I I' V V' : mI} {b : Nat} (w : BkP I b V) (eV : ∀ a, a = 95 ∨ a = 96 ∨ a = 97 ∨ a = 98 ∨ a = 99 ∨ a = 100 ∨ a = 101 ∨ a = 102 ∨ a = 103 → V' a = V a) (eI : ∀ a, a = b + 6 ∨ a = b + 7 ∨ a = b + 8 ∨ a = b + 9 ∨ a = b + 10 ∨ a = b + 11 ∨ a = b + 13 ∨ a = b + 14 ∨ a = b + 15 → I' a = I a) : BkP I' b V' := by
  have e95 := eV 95 (by omega)
  have e96 := eV 96 (by omega)
  have e97 := eV 97 (by omega)
  have e98 := eV 98 (by omega)
  have e99 := eV 99 (by omega)
  have e100 := eV 100 (by omega)
  have e101 := eV 101 (by omega)
  have e102 := eV 102 (by omega)
  have e103 := eV 103 (by omega)
  have i6 := eI (b + 6) (by omega)
  have i7 := eI (b + 7) (by omega)
  have i8 := eI (b + 8) (by omega)
  have i9 := eI (b + 9) (by omega)
  have i10 := eI (b + 10) (by omega)
  have i11 := eI (b + 11) (by omega)
  have i13 := eI (b + 13) (by omega)
  have i14 := eI (b + 14) (by omega)
  have i15 := eI (b + 15) (by omega)
  unfold BkP cP at w ⊢
  simp only [e95, e96, e97, e98, e99, e100, e101, e102, e103, i6, i7, i8, i9, i10, i11, i13, i14, i15]
  exact w
theorem BkO.cv {I I' V V' : mI} {b : Nat} (w : BkO I b V) (eV : ∀ a, a = 95 ∨ a = 106 ∨ a = 107 ∨ a = 108 ∨ a = 109 → V' a = V a) (eI : ∀ a, a = b + 12 → I' a = I a) : BkO I' b V' := by
  have e95 := eV 95 (by omega)
  have e106 := eV 106 (by omega)
  have e107 := eV 107 (by omega)
  have e108 := eV 108 (by omega)
  have e109 := eV 109 (by omega)
  have i12 := eI (b + 12) (by omega)
  unfold BkO cP opA hasB opB cM at w ⊢
  simp only [e95, e106, e107, e108, e109, i12]
  exact w
theorem BkN.cv {I I' V V' : mI} {b : Nat} (w : BkN I b V) (eV : ∀ a, a = 89 ∨ a = 104 ∨ a = 105 → V' a = V a) (eI : ∀ a, a = b + 16 ∨ a = b + 17 ∨ a = b + 18 ∨ a = b + 19 ∨ a = b + 20 ∨ a = b + 21 ∨ a = b + 22 → I' a = I a) : BkN I' b V' := by
  have e89 := eV 89 (by omega)
  have e104 := eV 104 (by omega)
  have e105 := eV 105 (by omega)
  have i16 := eI (b + 16) (by omega)
  have i17 := eI (b + 17) (by omega)
  have i18 := eI (b + 18) (by omega)
  have i19 := eI (b + 19) (by omega)
  have i20 := eI (b + 20) (by omega)
  have i21 := eI (b + 21) (by omega)
  have i22 := eI (b + 22) (by omega)
  unfold BkN wyA tkS at w ⊢
  simp only [e89, e104, e105, i16, i17, i18, i19, i20, i21, i22]
  exact w
theorem BkM.cv {I I' V V' : mI} {b : Nat} (w : BkM I b V) (eV : ∀ a, a = 106 ∨ a = 107 ∨ a = 108 ∨ a = 109 ∨ a = 110 ∨ a = 111 ∨ a = 112 ∨ a = 113 ∨ a = 114 ∨ a = 115 → V' a = V a) (eI : ∀ a, a = b + 23 ∨ a = b + 24 ∨ a = b + 25 ∨ a = b + 26 ∨ a = b + 27 ∨ a = b + 28 ∨ a = b + 29 ∨ a = b + 30 ∨ a = b + 31 ∨ a = b + 32 → I' a = I a) : BkM I' b V' := by
  have e106 := eV 106 (by omega)
  have e107 := eV 107 (by omega)
  have e108 := eV 108 (by omega)
  have e109 := eV 109 (by omega)
  have e110 := eV 110 (by omega)
  have e111 := eV 111 (by omega)
  have e112 := eV 112 (by omega)
  have e113 := eV 113 (by omega)
  have e114 := eV 114 (by omega)
  have e115 := eV 115 (by omega)
  have i23 := eI (b + 23) (by omega)
  have i24 := eI (b + 24) (by omega)
  have i25 := eI (b + 25) (by omega)
  have i26 := eI (b + 26) (by omega)
  have i27 := eI (b + 27) (by omega)
  have i28 := eI (b + 28) (by omega)
  have i29 := eI (b + 29) (by omega)
  have i30 := eI (b + 30) (by omega)
  have i31 := eI (b + 31) (by omega)
  have i32 := eI (b + 32) (by omega)
  unfold BkM cM at w ⊢
  simp only [e106, e107, e108, e109, e110, e111, e112, e113, e114, e115, i23, i24, i25, i26, i27, i28, i29, i30, i31, i32]
  exact w
theorem TRn.cv {h : mS} {I I' V V' : mI} {t x nl : Nat} (w : TRn h I V t x nl) (eV : ∀ a, 116 ≤ a → a ≤ 122 → V' a = V a) (eI : ∀ a, t ≤ a → a ≤ t + 7 → I' a = I a) : TRn h I' V' t x nl := by
  have w := w.cg eI
  unfold TRn ftA tcn at w ⊢
  simp only [eV 116 (by omega) (by omega), eV 117 (by omega) (by omega), eV 118 (by omega) (by omega), eV 119 (by omega) (by omega), eV 120 (by omega) (by omega), eV 121 (by omega) (by omega), eV 122 (by omega) (by omega)]
  exact w
theorem TR.cv {h : mS} {I I' V V' : mI} {t x : Nat} (w : TR h I V t x) (eV : ∀ a, 116 ≤ a → a ≤ 122 → V' a = V a) (eI : ∀ a, (38 ≤ a ∧ a ≤ 45) ∨ 147 ≤ a → I' a = I a) : TR h I' V' t x := by
  obtain ⟨nl, w⟩ := w
  refine ⟨nl, w.cv eV fun a h1 h2 => eI a ?_⟩
  rcases w.lo with q | q <;> omega
theorem BkX.cv {h : mS} {I I' V V' : mI} {b : Nat} (w : BkX h I b V) (eV : ∀ a, (116 ≤ a ∧ a ≤ 122) ∨ a = 106 ∨ a = 109 → V' a = V a) (eI : ∀ a, (38 ≤ a ∧ a ≤ 45) ∨ 147 ≤ a → I' a = I a) : BkX h I' b V' := by
  have ec : cM V' = cM V := by unfold cM; rw [eV 106 (by omega)]
  refine ⟨fun x hx => ?_, fun m hm hs => ?_, w.a, w.b⟩
  · obtain ⟨t, h1, h2⟩ := w.tx x hx
    exact ⟨t, h1, h2.cv (fun a _ _ => eV a (by omega)) eI⟩
  · rw [ec] at hm
    rw [eV 109 (by omega)] at hs
    obtain ⟨t, u, h1, h2, h3, h4⟩ := w.wt m hm hs
    exact ⟨t, u, h1, h2.cv (fun a _ _ => eV a (by omega)) eI, h3, h4.cv (fun a _ _ => eV a (by omega)) eI⟩
/-- what an update of the component leaves; of the reference -/
def UC (I I' : mI) : Prop := ∀ a, a = 0 ∨ (38 ≤ a ∧ a < 56) ∨ 83 ≤ a → I' a = I a
def UM (I I' : mI) : Prop := ∀ a, a < 83 ∨ 146 ≤ a → I' a = I a
theorem UC.rf {I : mI} : UC I I := fun _ _ => rfl
theorem UM.rf {I : mI} : UM I I := fun _ _ => rfl
theorem UC.tr {I J K : mI} (h : UC I J) (k : UC J K) : UC I K := fun a ha => (k a ha).trans (h a ha)
theorem UM.tr {I J K : mI} (h : UM I J) (k : UM J K) : UM I K := fun a ha => (k a ha).trans (h a ha)
theorem UC.u {I : mI} {a i : Nat} {x : Int32} (h : (1 ≤ a ∧ a < 38) ∨ (56 ≤ a ∧ a < 83) := by omega) : UC I (uI I a i x) := fun b hb => uI_ne (by omega)
theorem UM.u {I : mI} {a i : Nat} {x : Int32} (h : 83 ≤ a ∧ a ≤ 145 := by omega) : UM I (uI I a i x) := fun b hb => uI_ne (by omega)
theorem FrC.uc {I I' : mI} (f : FrC I I') : UC I I' := fun a ha => f a (by omega)
theorem FrM.um {I I' : mI} (f : FrM I I') : UM I I' := fun a ha => f a (by omega)
theorem MV.u {I V : mI} {a i : Nat} {x : Int32} (h : MV I V) : MV (uI I a i x) (uI V a i x) := fun b h1 h2 => by
  rw [uI_s, uI_s]
  by_cases e : b = a
  · subst e; rw [sA_at, sA_at, h b h1 h2]
  · rw [sA_ne e, sA_ne e]; exact h b h1 h2
theorem MV.o {I V : mI} {a i : Nat} {x : Int32} (h : MV I V) (ha : a < 84 ∨ 122 < a := by omega) : MV (uI I a i x) V := fun b h1 h2 => by
  rw [uI_ne (by omega)]; exact h b h1 h2
