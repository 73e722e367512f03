/-! the four lengths of a row, and the search -/
section RX
variable {E : Envt} {d : Nat} {Q : Pst} {h : mS} {I V : mI} {L : mL}
theorem x_ext4 (hs : SL h) (w : Wf V) {Ib : mI} (hT : TBL Ib (cqA V)) (hH : Ib 2 0 = nI (cH V)) {x y z v : Nat} (hxy : x < y) (hxz : x < z) (hxv : x < v) (hzy : z ≠ y) (hvy : v ≠ y) (hvz : v ≠ z) (hy : y < cH V) (hz : z < cH V) (hv : v < cH V)
    (l1 : lk4 V (x + 1) (y + 1)) (l2 : lk4 V (y + 1) (z + 1)) (l3 : lk4 V (z + 1) (v + 1)) :
    XCALL E h L Ib V (d + 3) 4 (fun k => if k = 3 then v else if k = 2 then z else if k = 1 then y else x) (gg V (x + 1) (y + 1) + gg V (y + 1) (z + 1) + gg V (z + 1) (v + 1)) (e4 (x + 1) (y + 1) (z + 1) (v + 1)) (e4 (x + 1) (y + 1) (z + 1) (v + 1) + 1) := by
  have h8 := w.H.n8
  have g1 := (gg_ok w l1).2
  have g2 := (gg_ok w l2).2
  have g3 := (gg_ok w l3).2
  refine c_ext (A := x + 1) (B := y + 1) (C := z + 1) (D := v + 1) (u := 0) hs w hT hH (by omega) (by omega) (fun k hk => ?_) (by omega) (fun k hk => ?_) (fun _ hl => ?_) (fun hn => ?_) (fun q => absurd q (by omega)) (fun q => absurd q (by omega)) (fun q => absurd q (by omega)) (fun _ => rfl) (fun q => absurd q (by omega)) (fun q => absurd q (by omega))
  · show (if k = 3 then v else if k = 2 then z else if k = 1 then y else x) < 8
    split
    · omega
    · split
      · omega
      · split <;> omega
  · have : k = 0 ∨ k = 1 ∨ k = 2 ∨ k = 3 := by omega
    rcases this with rfl | rfl | rfl | rfl <;> rfl
  · have hl : lk4 V (v + 1) (x + 1) := hl
    refine ⟨⟨by omega, by omega, by omega, by omega, by omega, by omega, fun _ => by omega, fun _ => by omega, l1, fun q => absurd q (by omega), fun _ => ⟨l2, fun q => absurd q (by omega), fun _ => ⟨l3, hl⟩⟩⟩, rfl, by unfold n4; rw [if_neg (by omega), if_neg (by omega)], ?_⟩
    unfold s4
    rw [if_neg (by omega), if_neg (by omega)]
    show _ = gg V (x + 1) (y + 1) + gg V (y + 1) (z + 1) + gg V (z + 1) (v + 1) + gg V (v + 1) (x + 1)
    omega
  · intro a b c d' hr
    obtain ⟨r1, r2, r3, r4', r5, r6, r7, r8, r9, r10, r11⟩ := hr
    have ne : e4 a b c d' ≠ e4 (x + 1) (y + 1) (z + 1) (v + 1) := by
      intro e
      unfold e4 at e
      have e1 : a = x + 1 := by omega
      have e2 : b = y + 1 := by omega
      have e3 : c = z + 1 := by omega
      have e5 : d' = v + 1 := by omega
      subst e1 e2 e3 e5
      exact hn ⟨by omega, ((r11 (by omega)).2.2 (by omega)).2⟩
    omega
theorem x_ext3 (hs : SL h) (w : Wf V) {Ib : mI} (hT : TBL Ib (cqA V)) (hH : Ib 2 0 = nI (cH V)) {x y z : Nat} (hxy : x < y) (hxz : x < z) (hzy : z ≠ y) (hy : y < cH V) (hz : z < cH V)
    (l1 : lk4 V (x + 1) (y + 1)) (l2 : lk4 V (y + 1) (z + 1)) :
    XCALL E h L Ib V (d + 4) 3 (fun k => if k = 2 then z else if k = 1 then y else x) (gg V (x + 1) (y + 1) + gg V (y + 1) (z + 1)) (e4 (x + 1) (y + 1) (z + 1) 0) (e4 (x + 1) (y + 1) (z + 1) 0 + 9) := by
  have h8 := w.H.n8
  have g1 := (gg_ok w l1).2
  have g2 := (gg_ok w l2).2
  refine c_ext (d := d + 1) (A := x + 1) (B := y + 1) (C := z + 1) (D := 0) (u := 1) hs w hT hH (by omega) (by omega) (fun k hk => ?_) (by omega) (fun k hk => ?_) (fun _ hl => ?_) (fun hn => ?_) (fun _ => ?_) (fun _ q hq1 hq2 hsk => ?_) (fun _ => ?_) (fun q => absurd q (by omega)) (fun _ => by show x < cH V; omega) (fun _ q hq1 hq2 hl hno => ?_)
  · show (if k = 2 then z else if k = 1 then y else x) < 8
    split
    · omega
    · split <;> omega
  · have : k = 0 ∨ k = 1 ∨ k = 2 := by omega
    rcases this with rfl | rfl | rfl <;> rfl
  · have hl : lk4 V (z + 1) (x + 1) := hl
    refine ⟨⟨by omega, by omega, by omega, by omega, by omega, by omega, fun _ => by omega, fun q => absurd rfl q, l1, fun q => absurd q (by omega), fun _ => ⟨l2, fun _ => hl, fun q => absurd rfl q⟩⟩, rfl, by unfold n4; rw [if_neg (by omega), if_pos rfl], ?_⟩
    unfold s4
    rw [if_neg (by omega), if_pos rfl]
    show _ = gg V (x + 1) (y + 1) + gg V (y + 1) (z + 1) + gg V (z + 1) (x + 1)
    omega
  · intro a b c d' hr
    obtain ⟨r1, r2, r3, r4', r5, r6, r7, r8, r9, r10, r11⟩ := hr
    have ne : e4 a b c d' ≠ e4 (x + 1) (y + 1) (z + 1) 0 := by
      intro e
      unfold e4 at e
      have e1 : a = x + 1 := by omega
      have e2 : b = y + 1 := by omega
      have e3 : c = z + 1 := by omega
      have e5 : d' = 0 := by omega
      subst e1 e2 e3 e5
      exact hn ⟨by omega, (r11 (by omega)).2.1 rfl⟩
    omega
  · intro a b c d' hr
    obtain ⟨r1, r2, r3, r4', r5, r6, r7, r8, r9, r10, r11⟩ := hr
    show e4 a b c d' < e4 (x + 1) (y + 1) (z + 1) 0 + (x + 2) * 1 ↔ _
    constructor
    · intro hlt
      by_cases c0 : e4 a b c d' < e4 (x + 1) (y + 1) (z + 1) 0 + 1
      · exact c0
      · exfalso
        unfold e4 at hlt c0
        have e1 : a = x + 1 := by omega
        have e2 : b = y + 1 := by omega
        have e3 : c = z + 1 := by omega
        have := r8 (by omega)
        omega
    · intro hlt; omega
  · intro a b c d' hr
    obtain ⟨r1, r2, r3, r4', r5, r6, r7, r8, r9, r10, r11⟩ := hr
    have hsk : ¬ lk4 V (z + 1) (q + 1) ∨ ∃ k, k < 3 ∧ (if k = 2 then z else if k = 1 then y else x) = q := hsk
    constructor
    · intro hlt
      by_cases c0 : e4 a b c d' < e4 (x + 1) (y + 1) (z + 1) 0 + (q + 1) * 1
      · exact c0
      · exfalso
        unfold e4 at hlt c0
        have e1 : a = x + 1 := by omega
        have e2 : b = y + 1 := by omega
        have e3 : c = z + 1 := by omega
        have e5 : d' = q + 1 := by omega
        subst e1 e2 e3 e5
        have h8' := r8 (by omega)
        rcases hsk with hsk | ⟨k, hk, hsk⟩
        · exact hsk ((r11 (by omega)).2.2 (by omega)).1
        · have hq1 : x < q := hq1
          split at hsk
          · omega
          · split at hsk <;> omega
    · intro hlt; omega
  · intro a b c d' hr
    obtain ⟨r1, r2, r3, r4', r5, r6, r7, r8, r9, r10, r11⟩ := hr
    unfold e4
    omega
  · have hl : lk4 V (z + 1) (q + 1) := hl
    have n0 := hno 0 (by omega)
    have n1 := hno 1 (by omega)
    have n2 := hno 2 (by omega)
    have n0 : x ≠ q := n0
    have n1 : y ≠ q := n1
    have n2 : z ≠ q := n2
    have hq1 : x < q := hq1
    have := x_ext4 (E := E) (L := L) (d := d) hs w hT hH hxy hxz hq1 hzy (Ne.symm n1) (Ne.symm n2) hy hz hq2 l1 l2 hl
    have e1 : e4 (x + 1) (y + 1) (z + 1) (q + 1) = e4 (x + 1) (y + 1) (z + 1) 0 + (q + 1) * 1 := by unfold e4; omega
    rw [e1] at this
    rw [show e4 (x + 1) (y + 1) (z + 1) 0 + (q + 2) * 1 = e4 (x + 1) (y + 1) (z + 1) 0 + (q + 1) * 1 + 1 by omega]
    exact this
theorem x_ext2 (hs : SL h) (w : Wf V) {Ib : mI} (hT : TBL Ib (cqA V)) (hH : Ib 2 0 = nI (cH V)) {x y : Nat} (hxy : x < y) (hy : y < cH V) (l1 : lk4 V (x + 1) (y + 1)) :
    XCALL E h L Ib V (d + 5) 2 (fun k => if k = 1 then y else x) (gg V (x + 1) (y + 1)) (e4 (x + 1) (y + 1) 0 0) (e4 (x + 1) (y + 1) 0 0 + 81) := by
  have h8 := w.H.n8
  have g1 := (gg_ok w l1).2
  refine c_ext (d := d + 2) (A := x + 1) (B := y + 1) (C := 0) (D := 0) (u := 9) hs w hT hH (by omega) (by omega) (fun k hk => ?_) (by omega) (fun k hk => ?_) (fun _ hl => ?_) (fun hn => ?_) (fun _ => ?_) (fun _ q hq1 hq2 hsk => ?_) (fun _ => ?_) (fun q => absurd q (by omega)) (fun _ => by show x < cH V; omega) (fun _ q hq1 hq2 hl hno => ?_)
  · show (if k = 1 then y else x) < 8
    split <;> omega
  · have : k = 0 ∨ k = 1 := by omega
    rcases this with rfl | rfl <;> rfl
  · have hl : lk4 V (y + 1) (x + 1) := hl
    refine ⟨⟨by omega, by omega, by omega, by omega, by omega, by omega, fun q => absurd rfl q, fun q => absurd rfl q, l1, fun _ => hl, fun q => absurd rfl q⟩, rfl, by unfold n4; rw [if_pos rfl], ?_⟩
    unfold s4
    rw [if_pos rfl]
    rfl
  · intro a b c d' hr
    obtain ⟨r1, r2, r3, r4', r5, r6, r7, r8, r9, r10, r11⟩ := hr
    have ne : e4 a b c d' ≠ e4 (x + 1) (y + 1) 0 0 := by
      intro e
      unfold e4 at e
      have e1 : a = x + 1 := by omega
      have e2 : b = y + 1 := by omega
      have e3 : c = 0 := by omega
      subst e1 e2 e3
      exact hn ⟨by omega, r10 rfl⟩
    omega
  · intro a b c d' hr
    obtain ⟨r1, r2, r3, r4', r5, r6, r7, r8, r9, r10, r11⟩ := hr
    show e4 a b c d' < e4 (x + 1) (y + 1) 0 0 + (x + 2) * 9 ↔ _
    constructor
    · intro hlt
      by_cases c0 : e4 a b c d' < e4 (x + 1) (y + 1) 0 0 + 1
      · exact c0
      · exfalso
        unfold e4 at hlt c0
        have e1 : a = x + 1 := by omega
        have e2 : b = y + 1 := by omega
        by_cases e3 : c = 0
        · have := r6 e3; omega
        · have := r7 e3; omega
    · intro hlt; omega
  · intro a b c d' hr
    obtain ⟨r1, r2, r3, r4', r5, r6, r7, r8, r9, r10, r11⟩ := hr
    have hsk : ¬ lk4 V (y + 1) (q + 1) ∨ ∃ k, k < 2 ∧ (if k = 1 then y else x) = q := hsk
    constructor
    · intro hlt
      by_cases c0 : e4 a b c d' < e4 (x + 1) (y + 1) 0 0 + (q + 1) * 9
      · exact c0
      · exfalso
        unfold e4 at hlt c0
        have e1 : a = x + 1 := by omega
        have e2 : b = y + 1 := by omega
        have e3 : c = q + 1 := by omega
        subst e1 e2 e3
        have h7' := r7 (by omega)
        rcases hsk with hsk | ⟨k, hk, hsk⟩
        · exact hsk (r11 (by omega)).1
        · have hq1 : x < q := hq1
          split at hsk <;> omega
    · intro hlt; omega
  · intro a b c d' hr
    obtain ⟨r1, r2, r3, r4', r5, r6, r7, r8, r9, r10, r11⟩ := hr
    unfold e4
    omega
  · have hl : lk4 V (y + 1) (q + 1) := hl
    have n0 := hno 0 (by omega)
    have n1 := hno 1 (by omega)
    have n0 : x ≠ q := n0
    have n1 : y ≠ q := n1
    have hq1 : x < q := hq1
    have := x_ext3 (E := E) (L := L) (d := d) hs w hT hH hxy hq1 (Ne.symm n1) hy hq2 l1 hl
    have e1 : e4 (x + 1) (y + 1) (q + 1) 0 = e4 (x + 1) (y + 1) 0 0 + (q + 1) * 9 := by unfold e4; omega
    rw [e1] at this
    rw [show e4 (x + 1) (y + 1) 0 0 + (q + 2) * 9 = e4 (x + 1) (y + 1) 0 0 + (q + 1) * 9 + 9 by omega]
    exact this
theorem x_ext1 (hs : SL h) (w : Wf V) {Ib : mI} (hT : TBL Ib (cqA V)) (hH : Ib 2 0 = nI (cH V)) {x : Nat} (hx : x < cH V) :
    XCALL E h L Ib V (d + 6) 1 (fun _ => x) 0 (e4 (x + 1) 0 0 0) (e4 (x + 1) 0 0 0 + 729) := by
  have h8 := w.H.n8
  refine c_ext (d := d + 3) (A := x + 1) (B := 0) (C := 0) (D := 0) (u := 81) hs w hT hH (by omega) (by omega) (fun k hk => ?_) (by omega) (fun k hk => ?_) (fun q => absurd q (by omega)) (fun hn => ?_) (fun _ => ?_) (fun _ q hq1 hq2 hsk => ?_) (fun _ => ?_) (fun q => absurd q (by omega)) (fun _ => hx) (fun _ q hq1 hq2 hl hno => ?_)
  · show x < 8
    omega
  · rw [show k = 0 by omega]; rfl
  · intro a b c d' hr
    obtain ⟨r1, r2, r3, r4', r5, r6, r7, r8, r9, r10, r11⟩ := hr
    unfold e4
    omega
  · intro a b c d' hr
    obtain ⟨r1, r2, r3, r4', r5, r6, r7, r8, r9, r10, r11⟩ := hr
    show e4 a b c d' < e4 (x + 1) 0 0 0 + (x + 2) * 81 ↔ _
    constructor
    · intro hlt
      by_cases c0 : e4 a b c d' < e4 (x + 1) 0 0 0 + 1
      · exact c0
      · exfalso
        unfold e4 at hlt c0
        have e1 : a = x + 1 := by omega
        omega
    · intro hlt; omega
  · intro a b c d' hr
    obtain ⟨r1, r2, r3, r4', r5, r6, r7, r8, r9, r10, r11⟩ := hr
    have hsk : ¬ lk4 V (x + 1) (q + 1) ∨ ∃ k, k < 1 ∧ x = q := hsk
    have hq1 : x < q := hq1
    constructor
    · intro hlt
      by_cases c0 : e4 a b c d' < e4 (x + 1) 0 0 0 + (q + 1) * 81
      · exact c0
      · exfalso
        unfold e4 at hlt c0
        have e1 : a = x + 1 := by omega
        have e2 : b = q + 1 := by omega
        subst e1 e2
        rcases hsk with hsk | ⟨k, hk, hsk⟩
        · exact hsk r9
        · omega
    · intro hlt; omega
  · intro a b c d' hr
    obtain ⟨r1, r2, r3, r4', r5, r6, r7, r8, r9, r10, r11⟩ := hr
    unfold e4
    omega
  · have hl : lk4 V (x + 1) (q + 1) := hl
    have hq1 : x < q := hq1
    have := x_ext2 (E := E) (L := L) (d := d) hs w hT hH hq1 hq2 hl
    have e1 : e4 (x + 1) (q + 1) 0 0 = e4 (x + 1) 0 0 0 + (q + 1) * 81 := by unfold e4; omega
    rw [e1] at this
    rw [show e4 (x + 1) 0 0 0 + (q + 2) * 81 = e4 (x + 1) 0 0 0 + (q + 1) * 81 + 81 by omega, Nat.zero_add]
    exact this
/-- what search leaves -/
def SR (I V : mI) : Prop := RGB V ∧ TBL I (cqA V) ∧ I 77 7 = nI (rgN V) ∧ I 77 8 = nI (rgS V) ∧ ∀ k, k < rgN V → I 82 k = nI (rgK V k)
theorem c_search (q : CQ h I V) (hG : GA I V) (hQ : ∀ I', (∀ a, a < 77 ∨ 82 < a → I' a = I a) → SR I' V → Q none h I' L) : CT E mX9_search (d + 7) 0 0 [.ref (eB E + 77)] h I L Q := by
  have h8 := q.w.H.n8
  have p0 := pk8 V 0
  have p1 := pk8 V 1
  refine w_X9_search (d := d + 3) q.s ?_
  refine c_fillA q.s (lt78 q.s) (kk78 q.s) (by decide) (fun f78 h1 _ => qv_i ?_)
  have K111 : ∀ Ib : mI, (∀ a, a < 77 ∨ 80 < a → Ib a = I a) → TBL Ib (cqA V) → (J E mX9_search ((d + 3) + 4) Q 0 0 111 [some (.ref (eB E + 77)), some (.int 0), none] [] h (uI (uI Ib 77 7 0) 77 8 0) L) := by
    intro Ib f1 hT
    have hH : Ib 2 0 = nI (cH V) := by rw [f1 2 (by decide), bH_n q.b]; exact q.w.H.n
    have K : ∀ x, x ≤ cH V → ∀ I2 T2, XST Ib 0 (fun _ => 0) V (729 * (x + 1)) I2 T2 → (J E mX9_search ((d + 3) + 4) Q 0 0 111 [some (.ref (eB E + 77)), some (.int (nI x)), none] [] h I2 L) := by
      refine dn (cH V) ?_ ?_
      · intro I2 T2 hX
        refine w_X9_search_111 q.s _ (br_t (by rw [hX.1 2 (by decide) (by decide) (by decide), hH]; exact nI_le (Nat.le_refl _) (by omega)) ?_)
        have hbo : BO V (fun _ _ _ _ => True) T2.1 T2.2.1 T2.2.2.1 T2.2.2.2.1 T2.2.2.2.2.1 T2.2.2.2.2.2 := BO_cg hX.2.2.2 (fun a b c d' hr => ⟨fun _ => by
          obtain ⟨r1, r2, r3, r4', r5, -⟩ := hr
          show e4 a b c d' < 729 * (cH V + 1)
          unfold e4; omega, fun _ => trivial⟩)
        obtain ⟨e1, e2, e3⟩ := rgT_of h8 hbo
        have en : rgN V = T2.2.2.2.2.1 := by have := (BO_n q.w hbo).1; unfold rgN; rw [e1]; omega
        have es : rgS V = T2.2.2.2.2.2 := e2
        refine hQ I2 (fun a ha => by rw [hX.1 a (by omega) (by omega) (by omega)]; exact f1 a (by omega)) ⟨rgT_bo hbo, ?_, ?_, ?_, fun k hk => ?_⟩
        · unfold TBL
          rw [hX.1 78 (by decide) (by decide) (by decide), hX.1 79 (by decide) (by decide) (by decide), hX.1 80 (by decide) (by decide) (by decide)]
          exact hT
        · rw [en]; exact hX.2.2.1.1
        · rw [es]; exact hX.2.2.1.2.1
        · rw [en] at hk
          rw [hX.2.2.1.2.2 (by omega) k hk]
          obtain ⟨q1, q2, q3, q4⟩ := e3 (by omega)
          unfold rgK
          rw [q1, q2, q3, q4]
      · intro x hx ih I2 T2 hX
        refine w_X9_search_111 q.s _ (br_f (by rw [hX.1 2 (by decide) (by decide) (by decide), hH]; exact nI_ge hx (by omega)) ?_)
        rw [nI_1]
        have e0 : e4 (x + 1) 0 0 0 = 729 * (x + 1) := by unfold e4; omega
        refine x_ext1 (E := E) (L := L) (d := d) q.s q.w hT hH hx _ T2 _ ⟨fun a h1 h2 h3 => by rw [uI_ne h2]; exact hX.1 a h1 h2 h3, fun k hk => by rw [show k = 0 by omega, uI_eq], ?_, by rw [e0]; exact hX.2.2.2⟩ (fun I3 T3 hX3 => qv_i ?_)
        · unfold RP6
          rw [uI_ne (by decide), uI_ne (by decide)]
          exact hX.2.2.1
        · refine ih I3 T3 ⟨hX3.1, fun k hk => absurd hk (by omega), hX3.2.2.1, ?_⟩
          have := hX3.2.2.2
          rw [e0, show 729 * (x + 1) + 729 = 729 * (x + 1 + 1) by omega] at this
          exact this
    refine K 0 (by omega) _ (0, 0, 0, 0, 0, 0) ⟨fun a h1 h2 h3 => by rw [uI_ne h1, uI_ne h1], fun k hk => absurd hk (by omega), ⟨?_, ?_, fun e => absurd rfl e⟩, Or.inl ⟨rfl, rfl, fun a b c d' hr hp => ?_⟩⟩
    · rw [uI_nj (by decide), uI_eq]; rfl
    · rw [uI_eq]; rfl
    · obtain ⟨r1, r2, -⟩ := hr
      have hp : e4 a b c d' < 729 * (0 + 1) := hp
      unfold e4 at hp; omega
  have K10 : ∀ i, i ≤ pkC V 0 → ∀ I1, (∀ a, a < 78 ∨ 80 < a → I1 a = I a) → TBL I1 (cqI V i) → (J E mX9_search ((d + 3) + 4) Q 0 0 10 [some (.ref (eB E + 77)), some (.int (nI i)), none] [] h I1 L) := by
    refine dn (pkC V 0) ?_ ?_
    · intro I1 f1 t1
      refine w_X9_search_10 q.s _ (br_t (by rw [f1 65 (by decide), hG.1]; exact nI_le (Nat.le_refl _) (by omega)) ?_)
      exact K111 I1 (fun a ha => f1 a (by omega)) t1
    · intro i hi ih I1 f1 t1
      refine w_X9_search_10 q.s _ (br_f (by rw [f1 65 (by decide), hG.1]; exact nI_ge hi (by omega)) ?_)
      have K23 : ∀ j, j ≤ pkC V 1 → ∀ I1, (∀ a, a < 78 ∨ 80 < a → I1 a = I a) → TBL I1 (cqJ V i (cqI V i) j) → (J E mX9_search ((d + 3) + 4) Q 0 0 23 [some (.ref (eB E + 77)), some (.int (nI i)), some (.int (nI j))] [] h I1 L) := by
        refine dn (pkC V 1) ?_ ?_
        · intro I1 f1 t1
          refine w_X9_search_23 q.s _ _ (br_t (by rw [f1 65 (by decide), hG.2.1]; exact nI_le (Nat.le_refl _) (by omega)) ?_)
          rw [nI_1]
          exact ih I1 f1 t1
        · intro j hj ihj I1 f1 t1
          have ei : nI i * 8 + nI j = nI (8 * i + j) := by rw [N8, pk_mul, nI_add, Nat.mul_comm]
          refine w_X9_search_23 q.s _ _ (br_f (by rw [f1 65 (by decide), hG.2.1]; exact nI_ge hj (by omega)) ?_)
          obtain ⟨m1, m2, -, -⟩ := hG.2.2.2.2 i j hi hj
          rw [ei, nI_clamp (show 8 * i + j < 2 ^ 31 by omega), nI_clamp (show i < 2 ^ 31 by omega), nI_clamp (show j < 2 ^ 31 by omega), f1 68 (by decide), f1 66 (by decide), f1 67 (by decide), f1 69 (by decide), m1, m2, hG.2.2.1 i hi, hG.2.2.2.1 j hj, nI_1]
          refine ⟨vp_in_nI (by omega) (by decide), ?_⟩
          by_cases c : mpA V i j
          · rw [cif_t c]
            refine br_f (by decide) ⟨vp_in_nI (by omega) (by decide), vp_in_nI (by omega) (by decide), ?_⟩
            have q1 : CQ h I1 V := q.fr (fun a ha => f1 a (by omega)) (q.k.cg (f1 57 (by decide)) (f1 58 (by decide)))
            refine c_offer q1 hi hj c (cqJ_ok q.w hi (cqI_ok q.w i (by omega)) j (by omega)) t1 (fun I2 f2 t2 => qv_i ?_)
            exact ihj I2 (fun a ha => by rw [f2 a ha]; exact f1 a ha) t2
          · rw [cif_f c]
            refine br_t rfl (ihj I1 f1 ?_)
            rw [cqJ, cqS, cif_f (fun e => c e.1)]
            exact t1
      exact K23 0 (by omega) I1 f1 t1
  refine K10 0 (by omega) _ (fun a ha => sA_ne (by omega)) (fun x hx => ?_)
  rw [sA_at, h1 x hx]
  exact ⟨⟨fun _ => rfl, fun _ => rfl⟩, fun e => absurd rfl e⟩
end RX
