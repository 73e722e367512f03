/-! update: end -/
noncomputable def endN (V : mI) (x : Int32) : Int32 × mI := cip (¬ x < 0 ∧ ¬ V 85 0 < x) (x, uI V 85 0 x) (-1, V)
section EN
variable {E : Envt} {d : Nat} {Q : Pst} {h : mS} {I I' V V' : mI} {L : mL}
theorem end_r (w : Wf V) {x : Int32} : (¬ x < 0 ∧ ¬ V 85 0 < x) ↔ inN x (cT V + 1) := by
  have t5 := w.S.t5
  rw [w.S.t]
  exact rng_le rfl (by omega)
theorem c_end (q : CQ h I V) {x : Int32} (hQ : ∀ I', UC I I' → CQ h I' (endN V x).2 → Q (some (.int (endN V x).1)) h I' L) : (CT E mX11_end (d + 1) 0 0 [.ref (eB E + 0), .int x] h I L Q) := by
  have t5 := q.w.S.t5
  unfold endN at hQ
  refine w_X11_end q.s _ ?_
  rw [bS_t q.b]
  refine br_c (fun c => ?_) (fun c => ?_)
  · rw [cip_t c] at hQ
    dsimp only at hQ
    obtain ⟨n, hn, rfl⟩ := (end_r q.w).mp c
    have et : uI V 85 0 (nI n) 85 0 = nI n := uI_eq
    have ec : cT (uI V 85 0 (nI n)) = n := by unfold cT; rw [et, nI_clamp (by omega)]
    have ey : cY (uI V 85 0 (nI n)) = cY V := by unfold cY; rw [uI_ne (by decide)]
    refine hQ _ UC.u (q.S' (fun a h1 h2 => uI_ne h1) (fun a ha => uI_ne (by omega)) ⟨?_, ?_, ?_, ?_, ?_⟩ ⟨?_, by rw [ey]; exact q.w.S.y3, by rw [ec]; exact et, by omega, fun i hi => by rw [uI_ne (by decide)]; exact q.w.S.tb i hi⟩)
    · rw [uI_nj (by decide), uI_ne (by decide)]; exact bS_y q.b
    · rw [uI_eq, uI_eq]
    · rw [uI_nj (by decide), uI_ne (by decide)]; exact bS_f q.b
    · rw [uI_nj (by decide), uI_ne (by decide)]; exact bS_p q.b
    · intro i hi
      rw [ec] at hi
      rw [uI_ne (by decide), uI_ne (by decide)]; exact bS_tape q.b i (by omega)
    · rw [ey, uI_ne (by decide)]; exact q.w.S.y
  · rw [cip_f c] at hQ
    exact hQ I UC.rf q
theorem m_end (hs : SL h) (hV : MV I V) {x : Int32} (hQ : ∀ I', UM I I' → MV I' (endN V x).2 → Q (some (.int (endN V x).1)) h I' L) : (CT E mX12_end (d + 1) 0 0 [.ref (eB E + 83), .int x] h I L Q) := by
  unfold endN at hQ
  refine w_X12_end hs _ ?_
  rw [hV 85 (by decide) (by decide)]
  refine br_c (fun c => ?_) (fun c => ?_)
  · rw [cip_t c] at hQ
    exact hQ _ (UM.tr UM.u UM.u) hV.o.u
  · rw [cip_f c] at hQ
    exact hQ _ UM.u hV.o
end EN
