/-! texts: the component takes one -/
theorem CQ.ft {h : mS} {I I' V : mI} (q : CQ h I V) (f : FT I I') : CQ h I' V :=
  ⟨q.s, ⟨q.b.S.cv (fun _ _ => rfl) (fun a ha => f.1 a (by omega)), q.b.H.cv (fun _ _ => rfl) (fun a ha => f.1 a (by omega)), q.b.P.cv (fun _ _ => rfl) (fun a ha => f.1 a (by omega)), q.b.O.cv (fun _ _ => rfl) (fun a ha => f.1 a (by omega)), q.b.N.cv (fun _ _ => rfl) (fun a ha => f.1 a (by omega)), q.b.M.cv (fun _ _ => rfl) (fun a ha => f.1 a (by omega)), q.b.X.cv (fun _ _ => rfl) (fun a ha => f.1 a (by omega))⟩, q.w, q.k.cg (f.1 57 (by omega)) (f.1 58 (by omega))⟩
theorem txZ_o {V : mI} {f p : Int32} {a : Nat} (h1 : a ≠ 85) (h2 : a ≠ 86) (h3 : a ≠ 87) : txZ V f p a = V a := by unfold txZ; rw [uI_ne h3, uI_ne h2, uI_ne h1]
/-- the tape is gone -/
theorem CQ.z {h : mS} {I V : mI} (q : CQ h I V) (f p : Int32) : CQ h (uI (uI (uI I 1 7 0) 1 8 f) 1 9 p) (txZ V f p) := by
  have t0 : txZ V f p 85 0 = 0 := by unfold txZ; rw [uI_ne (by decide), uI_ne (by decide), uI_eq]
  have ec : cT (txZ V f p) = 0 := by unfold cT; rw [t0]; rfl
  have ey : cY (txZ V f p) = cY V := by unfold cY; rw [txZ_o (by decide) (by decide) (by decide)]
  refine q.S' (fun a h1 h2 => by rw [uI_ne h1, uI_ne h1, uI_ne h1]) (fun a ha => txZ_o (by omega) (by omega) (by omega)) ⟨?_, ?_, ?_, ?_, fun i hi => ?_⟩ ⟨?_, by rw [ey]; exact q.w.S.y3, by rw [t0, ec]; rfl, by rw [ec]; omega, fun i hi => by rw [txZ_o (by decide) (by decide) (by decide)]; exact q.w.S.tb i hi⟩
  · rw [uI_nj (by decide), uI_nj (by decide), uI_nj (by decide), txZ_o (by decide) (by decide) (by decide)]; exact bS_y q.b
  · rw [uI_nj (by decide), uI_nj (by decide), uI_eq, t0]
  · rw [uI_nj (by decide), uI_eq]; unfold txZ; rw [uI_ne (by decide), uI_eq]
  · rw [uI_eq]; unfold txZ; rw [uI_eq]
  · rw [ec] at hi; omega
  · rw [ey, txZ_o (by decide) (by decide) (by decide)]; exact q.w.S.y
section TXN
variable {V A : mI} {x l k j : Nat} {a : mI}
/-- rows and words of the new text -/
theorem txn_r {V1 : mI} {nl i c : Nat} (hc : c = 117 ∨ c = 118 ∨ c = 119) (hi : i < nl) : txR V1 a x nl nl 0 c (16 * x + i) = a (c + 10) i := by
  rw [txR_r hc, if_pos (by omega)]; congr 1; omega
theorem txn_w {V1 : mI} {nl i j c : Nat} (hc : c = 120 ∨ c = 121 ∨ c = 122) (hi : i < nl) (hj : j < 4) (hjt : j < tcA a i) : txR V1 a x nl nl 0 c (4 * (16 * x + i) + j) = a (c + 10) (4 * i + j) := by
  rw [txR_w hc, show 4 * (16 * x + i) + j - 64 * x = 4 * i + j by omega, if_pos]
  refine ⟨by omega, Or.inl ⟨by omega, ?_⟩⟩
  rw [show (4 * i + j) / 4 = i by omega, show (4 * i + j) % 4 = j by omega]; exact hjt
theorem txn_ro {V1 : mI} {nl y i c : Nat} (hc : c = 117 ∨ c = 118 ∨ c = 119) (hi : i < 16) (hnl : nl ≤ 16) (hy : y ≠ x) : txR V1 a x nl nl 0 c (16 * y + i) = V1 c (16 * y + i) := by
  rw [txR_r hc, if_neg (by omega)]
theorem txn_wo {V1 : mI} {nl y i j c : Nat} (hc : c = 120 ∨ c = 121 ∨ c = 122) (hi : i < 16) (hj : j < 4) (hnl : nl ≤ 16) (hy : y ≠ x) : txR V1 a x nl nl 0 c (4 * (16 * y + i) + j) = V1 c (4 * (16 * y + i) + j) := by
  rw [txR_w hc, if_neg (by omega)]
end TXN
theorem txn_wf {V V1 a : mI} {x nl : Nat} {w : Int32} (wt : WfT V) (o : ∀ c, 117 ≤ c → c ≤ 122 → V1 c = V c) (hx : x < 7) (hw : (w = 0 ↔ x < 5)) (n16 : nl ≤ 16) (e6 : ∀ y, V1 116 y = if y = x then nI nl else V 116 y) (rows : ∀ l, l < nl → RWf w a l) : WfT (txR V1 a x nl nl 0) := by
  have e116 : txR V1 a x nl nl 0 116 = V1 116 := txR_o (by omega)
  -- each row is a row of V1 or a new one
  have row : ∀ r, (∃ i, i < nl ∧ r = 16 * x + i) ∨ ∀ c, c = 117 ∨ c = 118 ∨ c = 119 → txR V1 a x nl nl 0 c r = V c r := fun r => by
    by_cases c : 16 * x ≤ r ∧ r < 16 * x + nl
    · exact Or.inl ⟨r - 16 * x, by omega, by omega⟩
    · exact Or.inr fun b hb => by rw [txR_r hb, if_neg c, o b (by omega) (by omega)]
  have wrd : ∀ r j, j < 4 → (∃ i, i < nl ∧ r = 16 * x + i ∧ j < tcA a i) ∨ ∀ c, c = 120 ∨ c = 121 ∨ c = 122 → txR V1 a x nl nl 0 c (4 * r + j) = V c (4 * r + j) := fun r j hj => by
    by_cases c : 64 * x ≤ 4 * r + j ∧ (((4 * r + j - 64 * x) / 4 < nl ∧ (4 * r + j - 64 * x) % 4 < tcA a ((4 * r + j - 64 * x) / 4)) ∨ ((4 * r + j - 64 * x) / 4 = nl ∧ (4 * r + j - 64 * x) % 4 < 0))
    · left
      obtain ⟨c1, c2 | c2⟩ := c
      · refine ⟨(4 * r + j - 64 * x) / 4, c2.1, by omega, ?_⟩
        have := c2.2
        rw [show (4 * r + j - 64 * x) % 4 = j by omega] at this
        exact this
      · omega
    · exact Or.inr fun b hb => by rw [txR_w hb, if_neg c, o b (by omega) (by omega)]
  have tc : ∀ i, i < nl → tcA a i ≤ 4 ∧ a 127 i = nI (tcA a i) ∧ ∀ j, j < tcA a i → TWf a (4 * i + j) := fun i hi => by
    obtain ⟨⟨t, t4, et, tw⟩, -⟩ := rows i hi
    have e : tcA a i = t := by unfold tcA; rw [et, nI_clamp (by omega)]
    rw [e]; exact ⟨t4, et, tw⟩
  refine ⟨fun y hy => ?_, fun r hr => ?_, fun y l hy hl n5 n6 => ?_, fun y l hy hl => ?_, fun r hr => ?_, fun r hr => ?_, fun q hq => ?_, fun r j hr hj => ?_, fun r j hr hj => ?_⟩
  · rw [e116, e6]
    split
    · exact ⟨nl, by omega, rfl⟩
    · exact wt.li y hy
  · rcases row r with ⟨i, hi, rfl⟩ | e
    · rw [txn_r (by omega) hi]
      obtain ⟨t4, et, -⟩ := tc i hi
      rw [et]; exact ⟨_, by omega, rfl⟩
    · rw [e 117 (by omega)]; exact wt.te r hr
  · rcases row (16 * y + l) with ⟨i, hi, e⟩ | e
    · rw [e, txn_r (by omega) hi]
      obtain ⟨-, r0, r1, -⟩ := rows i hi
      have : y = x := by omega
      subst this
      exact r0 (hw.mpr (by omega))
    · rw [e 118 (by omega)]; exact wt.ac y l hy hl n5 n6
  · rw [e116, e6]
    intro hlt
    by_cases c : y = x
    · subst c
      rw [if_pos rfl, nI_lt' (by omega) (by omega)] at hlt
      rw [txn_r (by omega) hlt]
      exact (rows l hlt).2.2.1 (fun z => by have := hw.mp z; omega)
    · rw [if_neg c] at hlt
      rw [txn_ro (by omega) hl n16 c, o 118 (by omega) (by omega)]
      exact wt.aw y l hy hl hlt
  · rcases row r with ⟨i, hi, rfl⟩ | e
    · rw [txn_r (by omega) hi]; exact (rows i hi).2.2.2.1
    · rw [e 119 (by omega)]; exact wt.nu r hr
  · rcases row r with ⟨i, hi, rfl⟩ | e
    · rw [txn_r (by omega) hi, txn_r (by omega) hi]; exact (rows i hi).2.2.2.2
    · rw [e 118 (by omega), e 119 (by omega)]; exact wt.nb r hr
  · have e4 : q = 4 * (q / 4) + q % 4 := by omega
    rcases wrd (q / 4) (q % 4) (by omega) with ⟨i, hi, er, hj⟩ | e
    · rw [e4, er, txn_w (by omega) hi (by omega) hj]
      exact ((tc i hi).2.2 _ hj).1
    · rw [e4, e 120 (by omega)]; exact wt.wh _ (by omega)
  · intro hlt
    rcases row r with ⟨i, hi, rfl⟩ | e
    · rw [txn_r (by omega) hi] at hlt
      obtain ⟨t4, et, tw⟩ := tc i hi
      rw [et, nI_lt' (by omega) (by omega)] at hlt
      rw [txn_w (by omega) hi hj hlt, txn_w (by omega) hi hj hlt, txn_w (by omega) hi hj hlt]
      exact (tw j hlt).2.1
    · rw [e 117 (by omega)] at hlt
      rcases wrd r j hj with ⟨i, hi, er, hjt⟩ | e2
      · subst er
        rw [txn_w (by omega) hi hj hjt, txn_w (by omega) hi hj hjt, txn_w (by omega) hi hj hjt]
        exact ((tc i hi).2.2 j hjt).2.1
      · rw [e2 120 (by omega), e2 121 (by omega), e2 122 (by omega)]; exact wt.fl r j hr hj hlt
  · intro hlt
    rcases row r with ⟨i, hi, rfl⟩ | e
    · rw [txn_r (by omega) hi] at hlt
      obtain ⟨t4, et, tw⟩ := tc i hi
      rw [et, nI_lt' (by omega) (by omega)] at hlt
      rw [txn_w (by omega) hi hj hlt]
      exact (tw j hlt).2.2
    · rw [e 117 (by omega)] at hlt
      rcases wrd r j hj with ⟨i, hi, er, hjt⟩ | e2
      · subst er
        rw [txn_w (by omega) hi hj hjt]
        exact ((tc i hi).2.2 j hjt).2.2
      · rw [e2 121 (by omega)]; exact wt.si r j hr hj hlt
section TXC
variable {E : Envt} {d : Nat} {Q : Pst} {h : mS} {I V A : mI} {L : mL}
def UT (h : mS) (I I' : mI) : Prop := ∀ a, a = 0 ∨ (38 ≤ a ∧ a < 47) ∨ (83 ≤ a ∧ a < h.2.2) → I' a = I a
/-- the new text is the component's too -/
theorem text_cq (q : CQ h I V) {x nl : Nat} {w : Int32} {a I1 I2 : mI} {h1 : mS} (hx : x < 7) (hw : w = 0 ↔ x < 5) (n16 : nl ≤ 16) (rows : ∀ l, l < nl → RWf w a l) (f : FT I I1) (dr : Dr0 I1 nl a 0) (uh : UH h h1) (hr : ∀ c, c < h.2.2 → h1.2.1 c = h.2.1 c) (hs1 : SL h1) (lt : LT h1 h.2.2 nl (ftS a nl)) (hI : ∀ c, c < h.2.2 → I2 c = I1 c) (t0 : I2 h.2.2 0 = nI nl) (t1 : ∀ i, i < nl → I2 (h.2.2 + 1) i = I1 49 i) (t2 : ∀ i, i < nl → I2 (h.2.2 + 2) i = I1 50 i) (t3 : ∀ i, i ≤ nl → I2 (h.2.2 + 3) i = I1 51 i) (t4 : ∀ i, i < ftS a nl → I2 (h.2.2 + 4) i = I1 52 i) (t5 : ∀ i, i < ftS a nl → I2 (h.2.2 + 5) i = I1 53 i) (t6 : ∀ i, i < ftS a nl → I2 (h.2.2 + 6) i = I1 54 i) (t7 : ∀ i, i < ftS a nl → I2 (h.2.2 + 7) i = I1 55 i) :
    CQ (uRh h1 36 x (some h.2.2)) (uI (uI (uI I2 1 7 0) 1 8 0) 1 9 (-1)) (txR (uI (txZ V 0 (-1)) 116 x (nI nl)) a x nl nl 0) := by
  have h147 := q.s.1
  have q1 := q.ft f
  have hs2 : SL (uRh h1 36 x (some h.2.2)) := SL_uR hs1 (by decide)
  have uh2 : UH h (uRh h1 36 x (some h.2.2)) := UH.tr uh (UH.r (by omega))
  -- the state with the tape gone, at the old shape
  have z := q1.z 0 (-1)
  have eI : ∀ c, c < h.2.2 → uI (uI (uI I2 1 7 0) 1 8 0) 1 9 (-1) c = uI (uI (uI I1 1 7 0) 1 8 0) 1 9 (-1) c := fun c hc => by
    by_cases e : c = 1
    · subst e; rw [uI_at, uI_at, uI_at, uI_at, uI_at, uI_at, hI 1 (by omega)]
    · rw [uI_ne e, uI_ne e, uI_ne e, uI_ne e, uI_ne e, uI_ne e, hI c hc]
  have o : ∀ c, c ≠ 116 → (c < 117 ∨ 122 < c) → txR (uI (txZ V 0 (-1)) 116 x (nI nl)) a x nl nl 0 c = txZ V 0 (-1) c := fun c c1 c2 => by rw [txR_o c2, uI_ne c1]
  have oV : ∀ c, 117 ≤ c → c ≤ 122 → uI (txZ V 0 (-1)) 116 x (nI nl) c = V c := fun c c1 c2 => by rw [uI_ne (by omega), txZ_o (by omega) (by omega) (by omega)]
  have e116 : ∀ y, txR (uI (txZ V 0 (-1)) 116 x (nI nl)) a x nl nl 0 116 y = if y = x then nI nl else V 116 y := fun y => by
    rw [txR_o (by omega), uI_at]
    unfold upd
    rw [txZ_o (by decide) (by decide) (by decide)]
  have tc : ∀ i, i < nl → tcA a i ≤ 4 := fun i hi => by
    obtain ⟨⟨t, t4, et, -⟩, -⟩ := rows i hi
    unfold tcA; rw [et, nI_clamp (by omega)]; exact t4
  -- the other texts
  have oth : ∀ {t y : Nat}, y < 67 → y ≠ x → TR h I V t y → TR (uRh h1 36 x (some h.2.2)) (uI (uI (uI I2 1 7 0) 1 8 0) 1 9 (-1)) (txR (uI (txZ V 0 (-1)) 116 x (nI nl)) a x nl nl 0) t y := fun {t y} hy hne w => by
    have w2 := w.uh q.s uh2
    obtain ⟨nl2, w2⟩ := w2
    have l16 := w2.l16
    have hlt : t + 8 ≤ h.2.2 := by
      obtain ⟨nl3, w3⟩ := w
      exact w3.LT.1
    have lo := w2.lo
    have w3 : TRn (uRh h1 36 x (some h.2.2)) (uI (uI (uI I2 1 7 0) 1 8 0) 1 9 (-1)) V t y nl2 := w2.cg fun c c1 c2 => by
      rw [uI_ne (by omega), uI_ne (by omega), uI_ne (by omega), hI c (by omega), f.1 c (by omega)]
    refine ⟨nl2, w3.mv (by rw [e116, if_neg hne]) (fun c l hc hl => ?_) (fun l hl => tc_4 q.w.T (by omega)) (fun c l j hc hl hj => ?_)⟩
    · rw [txn_ro hc (by omega) n16 hne, oV c (by omega) (by omega)]
    · rw [txn_wo hc (by omega) hj n16 hne, oV c (by omega) (by omega)]
  obtain ⟨d1, d2, d3, d4⟩ := dr
  have et : ∀ i, i < nl → tcn (txR (uI (txZ V 0 (-1)) 116 x (nI nl)) a x nl nl 0) (16 * x + i) = tcA a i := fun i hi => by
    unfold tcn tcA; rw [txn_r (by omega) hi]
  have ef : ∀ l, l ≤ nl → ftA (txR (uI (txZ V 0 (-1)) 116 x (nI nl)) a x nl nl 0) x l = ftS a l := fun l hl => by
    unfold ftA ftS; exact fb_sm_cong fun i hi => et i (by omega)
  have mono : ∀ l j, l < nl → j < tcA a l → ftS a l + j < ftS a nl := fun l j hl hj => by
    have hle : ftS a (l + 1) ≤ ftS a nl := by
      have : ∀ m, l + 1 ≤ m → ftS a (l + 1) ≤ ftS a m := by
        intro m hm
        induction m with
        | zero => omega
        | succ m ih =>
          by_cases e : l + 1 = m + 1
          · rw [e]; exact Nat.le_refl _
          · have := ih (by omega)
            have e2 : ftS a (m + 1) = ftS a m + tcA a m := rfl
            omega
      exact this _ (by omega)
    have e2 : ftS a (l + 1) = ftS a l + tcA a l := rfl
    omega
  have lt2 : LT (uRh h1 36 x (some h.2.2)) h.2.2 nl (ftS a nl) := LT_uR lt (by omega)
  have tI : ∀ c, h.2.2 ≤ c → uI (uI (uI I2 1 7 0) 1 8 0) 1 9 (-1) c = I2 c := fun c hc => by rw [uI_ne (by omega), uI_ne (by omega), uI_ne (by omega)]
  have new : TR (uRh h1 36 x (some h.2.2)) (uI (uI (uI I2 1 7 0) 1 8 0) 1 9 (-1)) (txR (uI (txZ V 0 (-1)) 116 x (nI nl)) a x nl nl 0) h.2.2 x := by
    refine ⟨nl, n16, by rw [ef nl (Nat.le_refl _)]; exact lt2, Or.inr h147, by rw [tI _ (by omega)]; exact t0, by rw [e116, if_pos rfl], fun l hl => ?_, fun l hl => ?_, fun l hl => ?_, fun l j hl hj => ?_, fun l j hl hj => ?_, fun l j hl hj => ?_, fun l j hl hj => ?_⟩
    · rw [tI _ (by omega), t3 l hl, d2 l hl, ef l hl]
    · rw [tI _ (by omega), t1 l hl, (d3 l hl).1, txn_r (by omega) hl]
    · rw [tI _ (by omega), t2 l hl, (d3 l hl).2, txn_r (by omega) hl]
    · rw [et l hl] at hj
      have j4 := tc l hl
      have m := mono l j hl hj
      have w := d4 l j (Or.inl ⟨hl, hj⟩)
      rw [tI _ (by omega), ef l (by omega), t4 _ m, txn_w (by omega) hl (by omega) hj]
      exact w.1
    · rw [et l hl] at hj
      have j4 := tc l hl
      have m := mono l j hl hj
      have w := d4 l j (Or.inl ⟨hl, hj⟩)
      rw [tI _ (by omega), ef l (by omega), t5 _ m, txn_w (by omega) hl (by omega) hj, txn_w (by omega) hl (by omega) hj]
      exact w.2.1
    · rw [et l hl] at hj
      have j4 := tc l hl
      have m := mono l j hl hj
      have w := d4 l j (Or.inl ⟨hl, hj⟩)
      rw [tI _ (by omega), ef l (by omega), t6 _ m, txn_w (by omega) hl (by omega) hj, txn_w (by omega) hl (by omega) hj]
      exact w.2.2.1
    · rw [et l hl] at hj
      have j4 := tc l hl
      have m := mono l j hl hj
      have w := d4 l j (Or.inl ⟨hl, hj⟩)
      rw [tI _ (by omega), ef l (by omega), t7 _ m, txn_w (by omega) hl (by omega) hj]
      exact w.2.2.2
  have r36 : ∀ y, (uRh h1 36 x (some h.2.2)).2.1 36 y = if y = x then some h.2.2 else h1.2.1 36 y := fun y => by
    show uR h1.2.1 36 x (some h.2.2) 36 y = _
    unfold uR; simp
  refine ⟨hs2, ⟨z.b.S.cv (fun c hc => o c (by omega) (by omega)) (fun c hc => eI c (by omega)), z.b.H.cv (fun c hc => o c (by omega) (by omega)) (fun c hc => eI c (by omega)), z.b.P.cv (fun c hc => o c (by omega) (by omega)) (fun c hc => eI c (by omega)), z.b.O.cv (fun c hc => o c (by omega) (by omega)) (fun c hc => eI c (by omega)), z.b.N.cv (fun c hc => o c (by omega) (by omega)) (fun c hc => eI c (by omega)), z.b.M.cv (fun c hc => o c (by omega) (by omega)) (fun c hc => eI c (by omega)), ⟨fun y hy => ?_, fun m hm h2 => ?_, fun i t hi e => ?_, fun i t hi e => ?_⟩⟩, ⟨z.w.S.cv (fun c hc => o c (by omega) (by omega)), z.w.H.cv (fun c hc => o c (by omega) (by omega)), z.w.P.cv (fun c hc => o c (by omega) (by omega)), z.w.N.cv (fun c hc => o c (by omega) (by omega)), z.w.R.cv (fun c hc => o c (by omega) (by omega)), z.w.M.cv (fun c hc => o c (by omega) (by omega)), ?_, z.w.W.cv (fun c hc => o c (by omega) (by omega))⟩, ?_⟩
  · show ∃ t, (uRh h1 36 x (some h.2.2)).2.1 36 y = some t ∧ _
    rw [r36]
    by_cases c : y = x
    · rw [if_pos c, c]; exact ⟨_, rfl, new⟩
    · rw [if_neg c]
      obtain ⟨t, g1, g2⟩ := q.b.X.tx y hy
      exact ⟨t, by rw [hr 36 (by omega)]; exact g1, oth (by omega) c g2⟩
  · have em : cM (txR (uI (txZ V 0 (-1)) 116 x (nI nl)) a x nl nl 0) = cM V := by unfold cM; rw [o 106 (by omega) (by omega), txZ_o (by decide) (by decide) (by decide)]
    rw [em] at hm
    rw [o 109 (by omega) (by omega), txZ_o (by decide) (by decide) (by decide)] at h2
    have n30 := q.w.M.n30
    obtain ⟨t, u, g1, g2, g3, g4⟩ := q.b.X.wt m hm h2
    refine ⟨t, u, ?_, oth (by omega) (by omega) g2, ?_, oth (by omega) (by omega) g4⟩
    · show uR h1.2.1 36 x (some h.2.2) 34 m = some t
      rw [uR_ne (by decide), hr 34 (by omega)]; exact g1
    · show uR h1.2.1 36 x (some h.2.2) 35 m = some u
      rw [uR_ne (by decide), hr 35 (by omega)]; exact g3
  · have e : uR h1.2.1 36 x (some h.2.2) 34 i = some t := e
    rw [uR_ne (by decide), hr 34 (by omega)] at e
    obtain ⟨nl2, nt2, w⟩ := q.b.X.a i t hi e
    exact ⟨_, _, w.uh q.s uh2⟩
  · have e : uR h1.2.1 36 x (some h.2.2) 35 i = some t := e
    rw [uR_ne (by decide), hr 35 (by omega)] at e
    obtain ⟨nl2, nt2, w⟩ := q.b.X.b i t hi e
    exact ⟨_, _, w.uh q.s uh2⟩
  · refine txn_wf q.w.T oV hx hw n16 (fun y => ?_) rows
    rw [uI_at]
    unfold upd
    rw [txZ_o (by decide) (by decide) (by decide)]
  · have k := z.k.cv (I' := uI (uI (uI I2 1 7 0) 1 8 0) 1 9 (-1)) (V' := txR (uI (txZ V 0 (-1)) 116 x (nI nl)) a x nl nl 0) (eI 57 (by omega)) (eI 58 (by omega)) (o 89 (by omega) (by omega)) (o 104 (by omega) (by omega)) (o 105 (by omega) (by omega)) (fun k _ => by rw [o 97 (by omega) (by omega)])
    exact k
theorem ft_sp {a : mI} : ∀ {nl m : Nat}, m < ftS a nl → ∃ l j, l < nl ∧ j < tcA a l ∧ m = ftS a l + j
  | 0, m, h => absurd (show m < 0 from h) (Nat.not_lt_zero _)
  | nl + 1, m, h => by
    have e : ftS a (nl + 1) = ftS a nl + tcA a nl := rfl
    by_cases c : m < ftS a nl
    · obtain ⟨l, j, h1, h2, h3⟩ := ft_sp c
      exact ⟨l, j, by omega, h2, h3⟩
    · exact ⟨nl, m - ftS a nl, by omega, by omega, by omega⟩
theorem bz_7 {x : Int32} {c : Prop} {i : Decidable c} (h : x = @ite _ c i 1 0) : bz x := by
  rw [h]
  by_cases e : c
  · rw [if_pos e]; exact Or.inr rfl
  · rw [if_neg e]; exact Or.inl rfl
theorem c_text (q : CQ h I V) (h51 : I 51 0 = 0) {x : Int32} (hQ : ∀ h' I', UH h h' → UT h I I' → I' 51 0 = 0 → CQ h' I' (texN V A x).2 → Q (some (.int (texN V A x).1)) h' I' L) : CT E mX11_text (d + 10) 8 400 [.ref (eB E + 0), .int x] h I L Q := by
  have t5 := q.w.S.t5
  have h147 := q.s.1
  unfold texN at hQ
  refine wb_X11_text q.s _ (br_c (fun c => ?_) (fun c => ?_))
  · have c := r_7.mp c
    rw [cip_t c] at hQ
    obtain ⟨x, hx, rfl⟩ := c
    rw [nI_clamp (show x < 2 ^ 31 by omega)] at hQ ⊢
    have hw : (bI (¬ nI x < 5) = 0) ↔ x < 5 := by
      rw [bI_0, Classical.not_not]
      show nI x < nI 5 ↔ _
      rw [nI_lt' (by omega) (by decide)]
    have key : CT E mX8_take (d + 9) 8 400 [.ref (eB E + 47), .int (bI (¬ nI x < 5))] h I L (fun r h' I' L' => L' = L ∧ ((r = some .null ∧ SL h' ∧ Q (some (.int (-1))) h' (uI (uI (uI I' 1 7 0) 1 8 (I' 47 9)) 1 9 (I' 47 10)) L) ∨ (∃ t nl nt, r = some (.ref (eB E + t)) ∧ SL h' ∧ LT h' t nl nt ∧ Q (some (.int (uI (uI (uI I' 1 7 0) 1 8 (I' 47 9)) 1 9 (I' 47 10) t 0))) (uRh h' 36 x (some t)) (uI (uI (uI I' 1 7 0) 1 8 (I' 47 9)) 1 9 (I' 47 10)) L))) := by
      refine wb_X8_take q.s _ ⟨bI_bz _, ?_⟩
      generalize hI0 : uI (uI (uI (uI (uI (uI I 47 5 (bI (¬ nI x < 5))) 47 3 0) 47 6 0) 47 7 0) 47 9 0) 47 10 (-1) = I0
      have f0 : FT I I0 := by rw [← hI0]; exact FT.tr (FT.tr (FT.tr (FT.tr (FT.tr FT.u FT.u) FT.u) FT.u) FT.u) FT.u
      have q0 := q.ft f0
      have i5 : I0 47 5 = bI (¬ nI x < 5) := by rw [← hI0]; simp (disch := decide) only [uI_nj, uI_eq]
      have i3 : I0 47 3 = nI 0 := by rw [← hI0]; simp (disch := decide) only [uI_nj, uI_eq]; rfl
      have i6 : I0 47 6 = nI 0 := by rw [← hI0]; simp (disch := decide) only [uI_nj, uI_eq]; rfl
      have i7 : I0 47 7 = nI 0 := by rw [← hI0]; simp (disch := decide) only [uI_nj, uI_eq]; rfl
      have i9 : I0 47 9 = 0 := by rw [← hI0]; simp (disch := decide) only [uI_nj, uI_eq]
      have i10 : I0 47 10 = (-1) := by rw [← hI0]; simp (disch := decide) only [uI_nj, uI_eq]
      have e7 : I0 1 7 = nI (cT V) := by rw [bS_t q0.b]; exact q.w.S.t
      have e37 : ∀ i, i < cT V → I0 37 i = V 84 i := bS_tape q0.b
      refine c_advance (tp := V 84) (n := cT V) (p := 0) q.s t5 (by omega) e7 e37 i3 (fun I1 f1 t1 => qv_i ?_)
      have f01 : FT I I1 := FT.tr f0 f1.ft
      have hF : txF V A x = txS (V 84) (cT V) (cT V + 1) (tx0 A) (bI (¬ nI x < 5)) := rfl
      generalize bI (¬ nI x < 5) = w at hw i5 hF ⊢
      have r1 : PCs (V 84) (cT V) w I1 (tx0 A) 0 := by
        refine ⟨t1, by rw [f1.2 5 (by decide) (by decide) (by decide) (by decide)]; exact i5, fun _ => ⟨⟨?_, ?_, ?_, ?_⟩, fun l hl => ?_, fun l hl => absurd (show l < 0 from hl) (Nat.not_lt_zero _), fun l j hh => ?_⟩, fun e => absurd rfl e, by rw [f1.1 1 (by decide)]; exact e7, by rw [f1.1 37 (by decide)]; exact e37⟩
        · rw [f1.2 9 (by decide) (by decide) (by decide) (by decide)]; exact i9
        · rw [f1.2 10 (by decide) (by decide) (by decide) (by decide)]; exact i10
        · rw [f1.2 6 (by decide) (by decide) (by decide) (by decide)]; exact i6
        · rw [f1.2 7 (by decide) (by decide) (by decide) (by decide)]; exact i7
        · have hl : l ≤ 0 := hl
          have : l = 0 := by omega
          subst this
          rw [f01.2.1, h51]; rfl
        · rcases hh with hh | hh
          · exact absurd (show l < 0 from hh.1) (Nat.not_lt_zero _)
          · exact absurd hh.2 (Nat.not_lt_zero _)
      have po1 : POf w (tx0 A) := fun _ => ⟨show (0 : Nat) ≤ 16 by decide, fun l hl => absurd (show l < 0 from hl) (Nat.not_lt_zero _)⟩
      have ut : ∀ {I2 : mI} {f p : Int32}, FT I I2 → UT h I (uI (uI (uI I2 1 7 0) 1 8 f) 1 9 p) := fun f2 a ha => by
        rw [uI_ne (by omega), uI_ne (by omega), uI_ne (by omega)]; exact f2.1 a (by omega)
      have bad : ∀ {I2 : mI} {f p : Int32}, FT I I2 → I2 47 9 = f → I2 47 10 = p → txG V A x = (-1, txZ V f p) → Q (some (.int (-1))) h (uI (uI (uI I2 1 7 0) 1 8 (I2 47 9)) 1 9 (I2 47 10)) L := by
        intro I2 f p f2 e1 e2 eg
        rw [eg] at hQ
        rw [e1, e2]
        exact hQ _ _ UH.rf (ut f2) (by rw [uI_ne (by decide), uI_ne (by decide), uI_ne (by decide), f2.2.1]; exact h51) ((q.ft f2).z f p)
      have fin : ∀ {I2 : mI}, FT I I2 → ((txF V A x).1 = true → PCs (V 84) (cT V) w I2 (txF V A x).2 0) → ((txF V A x).1 = false → PCf (V 84) (cT V) I2 (txF V A x).2) → ((((I2 47 9) = 0) → (CT E mX8_fairCopy (d + 8) 8 400 [.ref (eB E + 47)] h I2 L (gt E fun t7 h3 I4 L5 => SL h3 ∧ (L5 = L ∧ ((some (Value.ref (eB E + t7)) = some .null ∧ SL h3 ∧ Q (some (.int (-1))) h3 (uI (uI (uI I4 1 7 0) 1 8 (I4 47 9)) 1 9 (I4 47 10)) L) ∨ (∃ t nl nt, some (Value.ref (eB E + t7)) = some (.ref (eB E + t)) ∧ SL h3 ∧ LT h3 t nl nt ∧ Q (some (.int (uI (uI (uI I4 1 7 0) 1 8 (I4 47 9)) 1 9 (I4 47 10) t 0))) (uRh h3 36 x (some t)) (uI (uI (uI I4 1 7 0) 1 8 (I4 47 9)) 1 9 (I4 47 10)) L)))))) ∧ (¬ ((I2 47 9) = 0) → (L = L ∧ ((some Value.null = some .null ∧ SL h ∧ Q (some (.int (-1))) h (uI (uI (uI I2 1 7 0) 1 8 (I2 47 9)) 1 9 (I2 47 10)) L) ∨ (∃ t nl nt, some Value.null = some (.ref (eB E + t)) ∧ SL h ∧ LT h t nl nt ∧ Q (some (.int (uI (uI (uI I2 1 7 0) 1 8 (I2 47 9)) 1 9 (I2 47 10) t 0))) (uRh h 36 x (some t)) (uI (uI (uI I2 1 7 0) 1 8 (I2 47 9)) 1 9 (I2 47 10)) L))))) := by
        intro I2 f2 ht hf
        cases hb : (txF V A x).1 with
        | false =>
          obtain ⟨g1, g2⟩ := hf hb
          refine br_f (by rw [g1]; decide) ⟨rfl, Or.inl ⟨rfl, q.s, bad f2 g1 g2 ?_⟩⟩
          unfold txG; rw [if_pos hb]
        | true =>
          have r2 := ht hb
          have nb : ¬ (txF V A x).1 = false := by rw [hb]; decide
          by_cases c4 : (txF V A x).2.lf = 0
          · have po2 : POf w (txF V A x).2 := by
              rw [hF] at hb ⊢
              exact tx_PO po1 hb
            have eg : txG V A x = (nI (txF V A x).2.nl, txR (uI (txZ V 0 (-1)) 116 x (nI (txF V A x).2.nl)) (txF V A x).2.a x (txF V A x).2.nl (txF V A x).2.nl 0) := by unfold txG; rw [if_neg nb, if_neg (fun z => z c4)]
            rw [eg] at hQ
            have dr := r2.2.2.1 c4
            obtain ⟨n16, rows⟩ := po2 c4
            generalize txF V A x = r at hQ dr n16 rows
            have d9 := dr.1.1
            have d10 := dr.1.2.1
            have fl := ft_le rows
            refine br_t d9 ?_
            refine c_fair q.s (nl := r.2.nl) (nt := ftS r.2.a r.2.nl) n16 (by omega) dr.1.2.2.1 dr.1.2.2.2 (fun j hj => ?_) (fun h1 I4 uh hr hs1 lt hI t0 t1 t2 t3 t4 t5 t6 t7 => gt_i ⟨hs1, rfl, Or.inr ⟨h.2.2, _, _, rfl, hs1, lt, ?_⟩⟩)
            · obtain ⟨l, j', l1, l2, l3⟩ := ft_sp (a := r.2.a) hj
              have w := dr.2.2.2 l j' (Or.inl ⟨l1, l2⟩)
              rw [l3]
              exact bz_7 w.2.2.2
            · have cq := text_cq q hx hw n16 rows f2 dr uh hr hs1 lt hI t0 t1 t2 t3 t4 t5 t6 t7
              have g9 : I4 47 9 = 0 := by rw [hI 47 (by omega)]; exact d9
              have g10 : I4 47 10 = (-1) := by rw [hI 47 (by omega)]; exact d10
              rw [g9, g10]
              have e0 : uI (uI (uI I4 1 7 0) 1 8 0) 1 9 (-1) h.2.2 0 = nI r.2.nl := by rw [uI_ne (by omega), uI_ne (by omega), uI_ne (by omega)]; exact t0
              rw [e0]
              refine hQ _ _ (UH.tr uh (UH.r (by omega))) (fun a ha => ?_) ?_ cq
              · rw [uI_ne (by omega), uI_ne (by omega), uI_ne (by omega), hI a (by omega)]; exact f2.1 a (by omega)
              · rw [uI_ne (by decide), uI_ne (by decide), uI_ne (by decide), hI 51 (by omega), f2.2.1]; exact h51
          · obtain ⟨g1, g2⟩ := r2.2.2.2.1 c4
            refine br_f (by rw [g1]; exact c4) ⟨rfl, Or.inl ⟨rfl, q.s, bad f2 g1 g2 ?_⟩⟩
            unfold txG; rw [if_neg nb, if_pos c4]
      have K : ∀ f k s I2 b, cT V + 1 ≤ f + s.p → s.p ≤ cT V → k ≤ s.p → FT I I2 → (b = true → PCs (V 84) (cT V) w I2 s 0 ∧ POf w s ∧ txF V A x = txS (V 84) (cT V) f s w) → (b = false → PCf (V 84) (cT V) I2 (txF V A x).2 ∧ (txF V A x).1 = false) → J E mX8_take (d + 9) (fun r h' I' L' => L' = L ∧ ((r = some .null ∧ SL h' ∧ Q (some (.int (-1))) h' (uI (uI (uI I' 1 7 0) 1 8 (I' 47 9)) 1 9 (I' 47 10)) L) ∨ (∃ t nl nt, r = some (.ref (eB E + t)) ∧ SL h' ∧ LT h' t nl nt ∧ Q (some (.int (uI (uI (uI I' 1 7 0) 1 8 (I' 47 9)) 1 9 (I' 47 10) t 0))) (uRh h' 36 x (some t)) (uI (uI (uI I' 1 7 0) 1 8 (I' 47 9)) 1 9 (I' 47 10)) L))) 8 400 38 [some (.ref (eB E + 47)), some (.int w), some (.int (tf b)), some (.int (nI k))] [] h I2 L := by
        intro f
        induction f with
        | zero => intro k s I2 b g1 g2; omega
        | succ f ih =>
          intro k s I2 b g1 g2 g3 f2 k1 k2
          refine wb_X8_take_38 q.s _ _ _ (br_f (show ¬ (500 : Int32) < nI k from nI_nlt (show k ≤ 500 by omega) (by decide)) ?_)
          cases b with
          | false =>
            obtain ⟨r2, e2⟩ := k2 rfl
            exact br_t rfl (fin f2 (fun z => absurd (e2.symm.trans z) (by decide)) (fun _ => r2))
          | true =>
            obtain ⟨r2, po2, e2⟩ := k1 rfl
            have et : txS (V 84) (cT V) (f + 1) s w = if knd (V 84) (cT V) s.p = 0 then (true, s) else if (lnS (V 84) (cT V) s w).1 = false then lnS (V 84) (cT V) s w else txS (V 84) (cT V) f (lnS (V 84) (cT V) s w).2 w := rfl
            rw [et] at e2
            refine br_f (by decide) ?_
            have c1' := r2.1.1
            by_cases c0 : knd (V 84) (cT V) s.p = 0
            · rw [if_pos c0] at e2
              refine br_t (by rw [c1']; exact c0) (fin f2 (fun _ => by rw [e2]; exact r2) (fun z => ?_))
              rw [e2] at z; exact absurd (show true = false from z) (by decide)
            · rw [if_neg c0] at e2
              refine br_f (by rw [c1']; exact c0) ?_
              have z := lnS_p (tp := V 84) (w := w) g2
              refine c_line q.s t5 r2 po2 g2 (fun I3 f3 ht hf => qi_i ?_)
              rw [nI_1]
              by_cases c1 : (lnS (V 84) (cT V) s w).1 = false
              · rw [if_pos c1] at e2
                rw [c1]
                have rr : PCf (V 84) (cT V) I3 (txF V A x).2 ∧ (txF V A x).1 = false := by rw [e2]; exact ⟨hf c1, c1⟩
                refine wb_X8_take_38 q.s _ _ _ ?_
                have fin2 := fin (FT.tr f2 f3) (fun z => absurd (rr.2.symm.trans z) (by decide)) (fun _ => rr.1)
                exact ⟨fun _ => fin2, fun _ => br_t rfl fin2⟩
              · rw [if_neg c1] at e2
                have c2 : (lnS (V 84) (cT V) s w).1 = true := by simpa using c1
                have mv := z.2.2 c2
                rw [c2]
                exact ih (k + 1) _ I3 true (by omega) z.2.1 (by omega) (FT.tr f2 f3) (fun _ => ⟨ht c2, ln_PO po2 c2, e2⟩) (fun q => absurd q (by decide))
      exact K (cT V + 1) 0 (tx0 A) I1 true (by omega) (Nat.zero_le _) (Nat.zero_le _) f01 (fun _ => ⟨r1, po1, hF⟩) (fun q => absurd q (by decide))
    refine key.mono fun v h' I' L' hp => ?_
    obtain ⟨rfl, ⟨e1, e2, e3⟩ | ⟨t, nl, nt, e1, e2, e3, e4⟩⟩ := hp
    · exact ⟨none, by rw [e1]; rfl, e2, fun _ => e3, fun t e => by cases e⟩
    · refine ⟨some t, by rw [e1]; rfl, e2, fun e => (by cases e), fun t2 e => ?_⟩
      cases e
      exact ⟨vp_in_nI (by omega) (by decide), _, _, e3, e4⟩
  · have c := fun e => c (r_7.mpr e)
    rw [cip_f c] at hQ
    exact hQ _ _ UH.rf (fun a ha => by rw [uI_ne (by omega), uI_ne (by omega), uI_ne (by omega)]) (by rw [uI_ne (by decide), uI_ne (by decide), uI_ne (by decide)]; exact h51) (q.z 0 (-1))
end TXC
