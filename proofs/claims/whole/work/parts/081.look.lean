/-! the reference looks at a couple -/
section LA
variable {E : Envt} {d : Nat} {Q : Pst} {h : mS} {I V : mI} {L : mL}
/-- what a look of the reference changes -/
def LFr (I I' : mI) : Prop := ∀ a, a ≠ 83 → (a < 123 ∨ 126 < a) → a ≠ 133 → I' a = I a
theorem LFr.fr {I I' : mI} (k : LFr I I') : FrM I I' := fun a ha => k a (by omega) (by omega) (by omega)
theorem LFr.tr {I J K : mI} (h : LFr I J) (k : LFr J K) : LFr I K := fun a h1 h2 h3 => (k a h1 h2 h3).trans (h a h1 h2 h3)
theorem LFr.rf {I : mI} : LFr I I := fun _ _ _ _ => rfl
theorem m_lookAt (hs : SL h) (w : Wf V) (hV : MV I V) {b g v : Nat} (hb : b < cP V) (hg : g < cP V) (hv : v < 5) (hQ : ∀ I', LFr I I' → (∀ j, j ≠ 44 → I' 83 j = I 83 j) → (∀ j, j < 11 → I' 133 j = faA V b g (kiA V v (V 88 0) b g) j) → Q none h I' L) :
    (CT E mX12_lookAt (d + 3) 0 0 [.ref (eB E + 83), .int (nI b), .int (nI g), .int (nI v)] h I L Q) := by
  have n20 := w.P.n20
  obtain ⟨hb8, ehb⟩ := hN_ok w (p := b) (by omega)
  obtain ⟨hg8, ehg⟩ := hN_ok w (p := g) (by omega)
  refine w_X12_lookAt hs _ _ _ ?_
  rw [nI_clamp (show b < 2 ^ 31 by omega), nI_clamp (show g < 2 ^ 31 by omega), hV 96 (by decide) (by decide), hV 91 (by decide) (by decide), hV 92 (by decide) (by decide), hV 102 (by decide) (by decide)]
  rw [ehb, ehg]
  refine ⟨vp_in_nI (by omega) (by decide), ?_⟩
  rintro y2 rfl
  refine ⟨vp_in_nI (by omega) (by decide), ?_⟩
  rintro y4 rfl
  rw [nI_clamp (show hN V b < 2 ^ 31 by omega), nI_clamp (show hN V g < 2 ^ 31 by omega)]
  refine ⟨vp_in_nI (by omega) (by decide), vp_in_nI (by omega) (by decide), vp_in_nI (by omega) (by decide), ?_⟩
  simp (disch := decide) only [uI_ne]
  rw [hV 94 (by decide) (by decide)]
  have fv : ∀ I', (∀ a, a ≠ 133 → I' a = I a) → MV I' V := fun I' f a h1 h2 => (f a (by omega)).trans (hV a h1 h2)
  refine m_hasElder hs w (fv _ (fun a h1 => by simp only [uI_ne h1])) hb ⟨rfl, rfl, _, rfl, ?_⟩
  simp (disch := decide) only [uI_ne]
  rw [hV 98 (by decide) (by decide), hV 88 (by decide) (by decide)]
  rintro y19 rfl
  refine m_kinOf hs w (fv _ (fun a h1 => by simp only [uI_ne h1])) hb hg hv (fun I' k1 k2 k3 k4 k5 => ⟨rfl, rfl, _, rfl, ?_⟩)
  have kV : MV I' V := fun a h1 h2 => by
    rw [k1.1 a (by omega) (by omega)]
    simp (disch := omega) only [uI_ne]
    exact hV a h1 h2
  simp (disch := decide) only [uI_ne]
  rw [kV 88 (by decide) (by decide), kV 99 (by decide) (by decide), kV 93 (by decide) (by decide)]
  refine ⟨vp_in_nI (by omega) (by decide), vp_in_nI (by omega) (by decide), hQ _ (fun a h1 h2 h3 => ?_) (fun j hj => ?_) (fun j hj => ?_)⟩
  · simp only [uI_ne h3]
    rw [k1.1 a h1 h2]
    simp only [uI_ne h3]
  · simp (disch := decide) only [uI_ne]
    rw [k1.2 j hj]
    simp (disch := decide) only [uI_ne]
  · have e133 : I' 133 = _ := k1.1 133 (by decide) (by decide)
    have hj' : j = 0 ∨ j = 1 ∨ j = 2 ∨ j = 3 ∨ j = 4 ∨ j = 5 ∨ j = 6 ∨ j = 7 ∨ j = 8 ∨ j = 9 ∨ j = 10 := by omega
    rcases hj' with rfl | rfl | rfl | rfl | rfl | rfl | rfl | rfl | rfl | rfl | rfl <;> simp (disch := decide) only [uI_ne, uI_eq, uI_nj, faA, e133]
    · exact bI_cg (by rw [bit_0 _ (by omega)]; exact Classical.not_not)
    · exact bI_ofz (w.P.wid b (by omega))
    · by_cases c : elA V b
      · rw [cif_t c]; exact bI_t (by decide)
      · rw [cif_f c]; exact bI_f (by simp)
    · rfl
    · rfl
end LA
