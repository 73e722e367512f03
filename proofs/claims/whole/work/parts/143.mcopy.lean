/-! the reference copies a slot (mcopy.py) -/
def cpK (V : mI) (f t a k : Nat) : mI := fun b i => if b = a ∧ sz a * t ≤ i ∧ i < sz a * t + k then V a (sz a * f + (i - sz a * t)) else cpS V f t a b i
theorem cpK_0 {V : mI} {f t a : Nat} : cpK V f t a 0 = cpS V f t a := by
  funext b i; unfold cpK; rw [if_neg (by omega)]
theorem cpK_n {V : mI} {f t a : Nat} (ha : 84 ≤ a) : cpK V f t a (sz a) = cpS V f t (a + 1) := by
  funext b i
  unfold cpK cpS
  by_cases e : b = a
  · subst e
    by_cases c : sz b * t ≤ i ∧ i < sz b * t + sz b
    · rw [if_pos ⟨rfl, c⟩, if_pos ⟨ha, by omega, c⟩]
    · rw [if_neg (fun z => c z.2), if_neg (fun z => c z.2.2), if_neg (fun z => c z.2.2)]
  · rw [if_neg (fun z => e z.1)]
    by_cases c : 84 ≤ b ∧ b < a ∧ sz b * t ≤ i ∧ i < sz b * t + sz b
    · rw [if_pos c, if_pos ⟨c.1, by omega, c.2.2⟩]
    · rw [if_neg c, if_neg (fun z => c ⟨z.1, by omega, z.2.2⟩)]
theorem cpK_s {V : mI} {f t a k : Nat} : uI (cpK V f t a k) a (sz a * t + k) (V a (sz a * f + k)) = cpK V f t a (k + 1) := by
  funext b i
  by_cases e : b = a
  · subst e
    by_cases c : i = sz b * t + k
    · subst c
      rw [uI_eq]
      unfold cpK
      rw [if_pos ⟨rfl, by omega, by omega⟩]; congr 1; omega
    · rw [uI_nj c]
      unfold cpK
      by_cases c2 : sz b * t ≤ i ∧ i < sz b * t + k
      · rw [if_pos ⟨rfl, c2⟩, if_pos ⟨rfl, by omega, by omega⟩]
      · rw [if_neg (fun z => c2 z.2), if_neg (fun z => c2 (by omega))]
  · rw [uI_ne e]
    funext
    unfold cpK
    rw [if_neg (fun z => e z.1), if_neg (fun z => e z.1)]
theorem cpK_f {V : mI} {f t a k j : Nat} (hne : f ≠ t) (hj : j < sz a) (hk : k ≤ sz a) : cpK V f t a k a (sz a * f + j) = V a (sz a * f + j) := by
  have hx : ¬ (sz a * t ≤ sz a * f + j ∧ sz a * f + j < sz a * t + sz a) := by
    rintro ⟨h1, h2⟩
    rcases Nat.lt_or_gt_of_ne hne with c | c
    · have : sz a * (f + 1) ≤ sz a * t := Nat.mul_le_mul_left _ c
      rw [Nat.mul_succ] at this
      omega
    · have : sz a * (t + 1) ≤ sz a * f := Nat.mul_le_mul_left _ c
      rw [Nat.mul_succ] at this
      omega
  unfold cpK cpS
  rw [if_neg (fun z => hx ⟨z.2.1, by omega⟩), if_neg (fun z => hx ⟨z.2.2.1, z.2.2.2⟩)]
section MCP
variable {E : Envt} {d : Nat} {Q : Pst} {h : mS} {I V : mI} {L : mL}
theorem m_move {a n f t : Nat} (hs : SL h) (ha : 84 ≤ a) (ha2 : a ≤ 122) (hn : sz a = n) (n5 : n ≤ 5000) (hl : a < h.2.2) (hk : h.1 a = (14, 4 * n)) (hf : f < 4) (ht : t < 4) (hne : f ≠ t) (hV : MV I (cpS V f t a)) (hQ : ∀ I', UM I I' → MV I' (cpS V f t (a + 1)) → Q none h I' L) : CT E mX12_move d 0 0 [.ref (eB E + a), .int (nI n), .int (nI f), .int (nI t)] h I L Q := by
  have b1 : n * f ≤ n * 3 := Nat.mul_le_mul_left _ (by omega)
  have b2 : n * t ≤ n * 3 := Nat.mul_le_mul_left _ (by omega)
  have K : ∀ k, k ≤ n → ∀ I', UM I I' → MV I' (cpK V f t a k) → J E mX12_move d Q 0 0 3 [some (.ref (eB E + a)), some (.int (nI n)), some (.int (nI f)), some (.int (nI t)), some (.int (nI k))] [] h I' L := by
    refine dn n ?_ ?_
    · intro I' u' v'
      rw [← hn, cpK_n ha] at v'
      exact w_X12_move_3 hs hl hk _ _ _ _ (br_t (nI_le (Nat.le_refl _) (by omega)) (hQ I' u' v'))
    · intro k hk2 ih I' u' v'
      refine w_X12_move_3 hs hl hk _ _ _ _ (br_f (nI_ge hk2 (by omega)) ?_)
      rw [pk_mul, pk_mul, nI_add, nI_add, nI_clamp (show n * f + k < 2 ^ 31 by omega), nI_clamp (show n * t + k < 2 ^ 31 by omega), nI_1 k]
      refine ⟨vp_in_nI (by omega) (by omega), vp_in_nI (by omega) (by omega), ih _ (UM.tr u' UM.u) ?_⟩
      have e : I' a (n * f + k) = V a (sz a * f + k) := by rw [v' a ha ha2, ← hn]; exact cpK_f hne (by omega) (by omega)
      rw [e, ← cpK_s, ← hn]
      exact v'.u
  exact w_X12_move hs _ _ _ hl hk (K 0 (by omega) I UM.rf (by rw [cpK_0]; exact hV))
theorem m_moveB {a n f t : Nat} (hs : SL h) (ha : 84 ≤ a) (ha2 : a ≤ 122) (hn : sz a = n) (n5 : n ≤ 5000) (hl : a < h.2.2) (hk : h.1 a = (16, 4 * n)) (hf : f < 4) (ht : t < 4) (hne : f ≠ t) (hb : ∀ k, k < n → bz (V a (sz a * f + k))) (hV : MV I (cpS V f t a)) (hQ : ∀ I', UM I I' → MV I' (cpS V f t (a + 1)) → Q none h I' L) : CT E mX12_moveBits d 0 0 [.ref (eB E + a), .int (nI n), .int (nI f), .int (nI t)] h I L Q := by
  have b1 : n * f ≤ n * 3 := Nat.mul_le_mul_left _ (by omega)
  have b2 : n * t ≤ n * 3 := Nat.mul_le_mul_left _ (by omega)
  have K : ∀ k, k ≤ n → ∀ I', UM I I' → MV I' (cpK V f t a k) → J E mX12_moveBits d Q 0 0 3 [some (.ref (eB E + a)), some (.int (nI n)), some (.int (nI f)), some (.int (nI t)), some (.int (nI k))] [] h I' L := by
    refine dn n ?_ ?_
    · intro I' u' v'
      rw [← hn, cpK_n ha] at v'
      exact w_X12_moveBits_3 hs hl hk _ _ _ _ (br_t (nI_le (Nat.le_refl _) (by omega)) (hQ I' u' v'))
    · intro k hk2 ih I' u' v'
      refine w_X12_moveBits_3 hs hl hk _ _ _ _ (br_f (nI_ge hk2 (by omega)) ?_)
      rw [pk_mul, pk_mul, nI_add, nI_add, nI_clamp (show n * f + k < 2 ^ 31 by omega), nI_clamp (show n * t + k < 2 ^ 31 by omega), nI_1 k]
      have e : I' a (n * f + k) = V a (sz a * f + k) := by rw [v' a ha ha2, ← hn]; exact cpK_f hne (by omega) (by omega)
      rw [e]
      refine ⟨vp_in_nI (by omega) (by omega), vp_in_nI (by omega) (by omega), hb k hk2, ih _ (UM.tr u' UM.u) ?_⟩
      rw [← cpK_s, ← hn]
      exact v'.u
  exact w_X12_moveBits hs _ _ _ hl hk (K 0 (by omega) I UM.rf (by rw [cpK_0]; exact hV))
theorem m_copyM {f t : Nat} (hs : SL h) (hf : f < 4) (ht : t < 4) (hne : f ≠ t) (v105 : MV I (cpS V f t 106)) (hQ : ∀ I', UM I I' → MV I' (cpS V f t 123) → Q none h I' L) : CT E mX12_copyMatches (d + 1) 0 0 [.ref (eB E + 83), .int (nI f), .int (nI t)] h I L Q := by
  refine w_X12_copyMatches hs _ _ ?_
  refine m_move (a := 106) (n := 1) hs (by decide) (by decide) rfl (by decide) (lt106 hs) (kk106 hs) hf ht hne v105 (fun I106 u106 v106 => qv_i ?_)
  refine m_move (a := 107) (n := 30) hs (by decide) (by decide) rfl (by decide) (lt107 hs) (kk107 hs) hf ht hne v106 (fun I107 u107 v107 => qv_i ?_)
  refine m_move (a := 108) (n := 30) hs (by decide) (by decide) rfl (by decide) (lt108 hs) (kk108 hs) hf ht hne v107 (fun I108 u108 v108 => qv_i ?_)
  refine m_move (a := 109) (n := 30) hs (by decide) (by decide) rfl (by decide) (lt109 hs) (kk109 hs) hf ht hne v108 (fun I109 u109 v109 => qv_i ?_)
  refine m_move (a := 110) (n := 30) hs (by decide) (by decide) rfl (by decide) (lt110 hs) (kk110 hs) hf ht hne v109 (fun I110 u110 v110 => qv_i ?_)
  refine m_move (a := 111) (n := 30) hs (by decide) (by decide) rfl (by decide) (lt111 hs) (kk111 hs) hf ht hne v110 (fun I111 u111 v111 => qv_i ?_)
  refine m_move (a := 112) (n := 30) hs (by decide) (by decide) rfl (by decide) (lt112 hs) (kk112 hs) hf ht hne v111 (fun I112 u112 v112 => qv_i ?_)
  refine m_move (a := 113) (n := 30) hs (by decide) (by decide) rfl (by decide) (lt113 hs) (kk113 hs) hf ht hne v112 (fun I113 u113 v113 => qv_i ?_)
  refine m_move (a := 114) (n := 30) hs (by decide) (by decide) rfl (by decide) (lt114 hs) (kk114 hs) hf ht hne v113 (fun I114 u114 v114 => qv_i ?_)
  refine m_move (a := 115) (n := 330) hs (by decide) (by decide) rfl (by decide) (lt115 hs) (kk115 hs) hf ht hne v114 (fun I115 u115 v115 => qv_i ?_)
  refine m_move (a := 116) (n := 67) hs (by decide) (by decide) rfl (by decide) (lt116 hs) (kk116 hs) hf ht hne v115 (fun I116 u116 v116 => qv_i ?_)
  refine m_move (a := 117) (n := 1072) hs (by decide) (by decide) rfl (by decide) (lt117 hs) (kk117 hs) hf ht hne v116 (fun I117 u117 v117 => qv_i ?_)
  refine m_move (a := 118) (n := 1072) hs (by decide) (by decide) rfl (by decide) (lt118 hs) (kk118 hs) hf ht hne v117 (fun I118 u118 v118 => qv_i ?_)
  refine m_move (a := 119) (n := 1072) hs (by decide) (by decide) rfl (by decide) (lt119 hs) (kk119 hs) hf ht hne v118 (fun I119 u119 v119 => qv_i ?_)
  refine m_move (a := 120) (n := 4288) hs (by decide) (by decide) rfl (by decide) (lt120 hs) (kk120 hs) hf ht hne v119 (fun I120 u120 v120 => qv_i ?_)
  refine m_move (a := 121) (n := 4288) hs (by decide) (by decide) rfl (by decide) (lt121 hs) (kk121 hs) hf ht hne v120 (fun I121 u121 v121 => qv_i ?_)
  refine m_move (a := 122) (n := 4288) hs (by decide) (by decide) rfl (by decide) (lt122 hs) (kk122 hs) hf ht hne v121 (fun I122 u122 v122 => qv_i ?_)
  exact hQ _ (UM.tr (UM.tr (UM.tr (UM.tr (UM.tr (UM.tr (UM.tr (UM.tr (UM.tr (UM.tr (UM.tr (UM.tr (UM.tr (UM.tr (UM.tr (UM.tr u106 u107) u108) u109) u110) u111) u112) u113) u114) u115) u116) u117) u118) u119) u120) u121) u122) v122
theorem m_copy {f t : Nat} (hs : SL h) (w : Wf (slV V f)) (hf : f < 4) (ht : t < 4) (hne : f ≠ t) (hV : MV I V) (hQ : ∀ I', UM I I' → MV I' (cpS V f t 123) → Q none h I' L) : CT E mX12_copy (d + 2) 0 0 [.ref (eB E + 83), .int (nI f), .int (nI t)] h I L Q := by
  have K : ∀ k, k ≤ 500 → ∀ I', UM I I' → MV I' (cpK V f t 84 k) → J E mX12_copy (d + 2) Q 0 0 2 [some (.ref (eB E + 83)), some (.int (nI f)), some (.int (nI t)), some (.int (nI k))] [] h I' L := by
    refine dn 500 ?_ ?_
    · intro I84 u84 v84
      have v84 : MV I84 (cpS V f t 85) := by
        have e : cpK V f t 84 500 = cpS V f t 85 := cpK_n (a := 84) (by decide)
        rw [← e]; exact v84
      refine w_X12_copy_2 hs _ _ _ (br_t (nI_le (show 500 ≤ 500 by omega) (by decide)) ?_)
      refine m_move (a := 85) (n := 1) hs (by decide) (by decide) rfl (by decide) (lt85 hs) (kk85 hs) hf ht hne v84 (fun I85 u85 v85 => qv_i ?_)
      refine m_move (a := 86) (n := 1) hs (by decide) (by decide) rfl (by decide) (lt86 hs) (kk86 hs) hf ht hne v85 (fun I86 u86 v86 => qv_i ?_)
      refine m_move (a := 87) (n := 1) hs (by decide) (by decide) rfl (by decide) (lt87 hs) (kk87 hs) hf ht hne v86 (fun I87 u87 v87 => qv_i ?_)
      refine m_move (a := 88) (n := 1) hs (by decide) (by decide) rfl (by decide) (lt88 hs) (kk88 hs) hf ht hne v87 (fun I88 u88 v88 => qv_i ?_)
      refine m_move (a := 89) (n := 25) hs (by decide) (by decide) rfl (by decide) (lt89 hs) (kk89 hs) hf ht hne v88 (fun I89 u89 v89 => qv_i ?_)
      refine m_move (a := 90) (n := 1) hs (by decide) (by decide) rfl (by decide) (lt90 hs) (kk90 hs) hf ht hne v89 (fun I90 u90 v90 => qv_i ?_)
      refine m_move (a := 91) (n := 8) hs (by decide) (by decide) rfl (by decide) (lt91 hs) (kk91 hs) hf ht hne v90 (fun I91 u91 v91 => qv_i ?_)
      refine m_move (a := 92) (n := 8) hs (by decide) (by decide) rfl (by decide) (lt92 hs) (kk92 hs) hf ht hne v91 (fun I92 u92 v92 => qv_i ?_)
      refine m_move (a := 93) (n := 8) hs (by decide) (by decide) rfl (by decide) (lt93 hs) (kk93 hs) hf ht hne v92 (fun I93 u93 v93 => qv_i ?_)
      refine m_move (a := 94) (n := 8) hs (by decide) (by decide) rfl (by decide) (lt94 hs) (kk94 hs) hf ht hne v93 (fun I94 u94 v94 => qv_i ?_)
      refine m_move (a := 95) (n := 1) hs (by decide) (by decide) rfl (by decide) (lt95 hs) (kk95 hs) hf ht hne v94 (fun I95 u95 v95 => qv_i ?_)
      refine m_move (a := 96) (n := 20) hs (by decide) (by decide) rfl (by decide) (lt96 hs) (kk96 hs) hf ht hne v95 (fun I96 u96 v96 => qv_i ?_)
      refine m_move (a := 97) (n := 20) hs (by decide) (by decide) rfl (by decide) (lt97 hs) (kk97 hs) hf ht hne v96 (fun I97 u97 v97 => qv_i ?_)
      refine m_move (a := 98) (n := 20) hs (by decide) (by decide) rfl (by decide) (lt98 hs) (kk98 hs) hf ht hne v97 (fun I98 u98 v98 => qv_i ?_)
      refine m_move (a := 99) (n := 20) hs (by decide) (by decide) rfl (by decide) (lt99 hs) (kk99 hs) hf ht hne v98 (fun I99 u99 v99 => qv_i ?_)
      refine m_moveB (a := 100) (n := 20) hs (by decide) (by decide) rfl (by decide) (lt100 hs) (kk100 hs) hf ht hne (fun k hk => w.P.dea k hk) v99 (fun I100 u100 v100 => qv_i ?_)
      refine m_move (a := 101) (n := 20) hs (by decide) (by decide) rfl (by decide) (lt101 hs) (kk101 hs) hf ht hne v100 (fun I101 u101 v101 => qv_i ?_)
      refine m_moveB (a := 102) (n := 20) hs (by decide) (by decide) rfl (by decide) (lt102 hs) (kk102 hs) hf ht hne (fun k hk => w.P.wid k hk) v101 (fun I102 u102 v102 => qv_i ?_)
      refine m_moveB (a := 103) (n := 20) hs (by decide) (by decide) rfl (by decide) (lt103 hs) (kk103 hs) hf ht hne (fun k hk => w.P.eve k hk) v102 (fun I103 u103 v103 => qv_i ?_)
      refine m_move (a := 104) (n := 1) hs (by decide) (by decide) rfl (by decide) (lt104 hs) (kk104 hs) hf ht hne v103 (fun I104 u104 v104 => qv_i ?_)
      refine m_move (a := 105) (n := 240) hs (by decide) (by decide) rfl (by decide) (lt105 hs) (kk105 hs) hf ht hne v104 (fun I105 u105 v105 => qv_i ?_)
      exact m_copyM hs hf ht hne v105 (fun I' u' v' => qv_i (hQ I' (UM.tr (UM.tr (UM.tr (UM.tr (UM.tr (UM.tr (UM.tr (UM.tr (UM.tr (UM.tr (UM.tr (UM.tr (UM.tr (UM.tr (UM.tr (UM.tr (UM.tr (UM.tr (UM.tr (UM.tr (UM.tr (UM.tr u84 u85) u86) u87) u88) u89) u90) u91) u92) u93) u94) u95) u96) u97) u98) u99) u100) u101) u102) u103) u104) u105) u') v'))
    · intro k hk ih I' u' v'
      refine w_X12_copy_2 hs _ _ _ (br_f (nI_ge (show k < 500 by omega) (by decide)) ?_)
      have m1 : 500 * nI f + nI k = nI (500 * f + k) := by rw [show (500 : Int32) = nI 500 from rfl, pk_mul, nI_add]
      have m2 : 500 * nI t + nI k = nI (500 * t + k) := by rw [show (500 : Int32) = nI 500 from rfl, pk_mul, nI_add]
      rw [m1, m2, nI_clamp (show 500 * f + k < 2 ^ 31 by omega), nI_clamp (show 500 * t + k < 2 ^ 31 by omega), nI_1 k]
      have e : I' 84 (500 * f + k) = V 84 (500 * f + k) := by rw [v' 84 (by decide) (by decide)]; exact cpK_f (a := 84) hne (show k < 500 by omega) (show k ≤ 500 by omega)
      rw [e]
      have tb : -128 ≤ (V 84 (500 * f + k)).toInt ∧ (V 84 (500 * f + k)).toInt ≤ 127 := w.S.tb k (by omega)
      refine ⟨vp_in_nI (by omega) (by decide), vp_in_nI (by omega) (by decide), fb_byte tb.1 (by have := tb.2; omega), ih _ (UM.tr u' UM.u) ?_⟩
      have e2 := cpK_s (V := V) (f := f) (t := t) (a := 84) (k := k)
      have e3 : uI (cpK V f t 84 k) 84 (500 * t + k) (V 84 (500 * f + k)) = cpK V f t 84 (k + 1) := e2
      rw [← e3]
      exact v'.u
  exact w_X12_copy hs _ _ (K 0 (by omega) I UM.rf (by rw [cpK_0, cpS_0]; exact hV))
end MCP
