section CL
variable {E : Envt} {d : Nat} {Q : Pst} {h : mS} {I V : mI} {L : mL}
theorem pk_subN {a b : Nat} (hb : b ≤ a) : nI a - nI b = nI (a - b) := pk_sub hb
theorem c_rise (hs : SL h) {P : Nat → Int32} {v a f u k : Nat} (hb : I 7 0 = nI (cP V)) (n20 : cP V ≤ 20) (ha : a < 20) (hf : f < cP V) (hv : v < 5) (h7 : I 56 7 = nI (40 * v)) (hI : ∀ i, i < 40 → I 58 (40 * v + i) = P i) (hP : paOK V P)
    (hu : dR (pr P) a f = u) (hu2 : u < 20) (h59 : I 59 f = nI u) (hk : k ≤ u) (hQ : ∀ g g', Q (some (.int (nI (riP P f u a k)))) h (two I 61 g 62 g') L) : (CT E mX3_rise (d + 2) 0 0 [.ref (eB E + 56), .int (nI a), .int (nI f), .int (nI k)] h I L Q) := by
  refine w_X3_rise hs _ _ _ ?_
  refine c_descend (P := P) hs hb n20 hf hv h7 hI hP (fun g g' hg => ⟨rfl, rfl, rfl, ?_⟩)
  have K : ∀ s, s ≤ k → (J E mX3_rise (d + 2) Q 0 0 11 [some (.ref (eB E + 56)), some (.int (nI a)), some (.int (nI f)), some (.int (nI k)), some (.int (nI (riP P f u a s))), some (.int (nI (s + 1)))] [] h (two I 61 g 62 g') L) := by
    refine dn k ?_ ?_
    · exact w_X3_rise_11 hs _ _ _ _ _ (br_t (nI_lt (by omega) (by omega)) (hQ g g'))
    · intro s hsk ih
      have hr := riP_ok hu hu2 ha s (by omega)
      refine w_X3_rise_11 hs _ _ _ _ _ (br_f (nI_nlt (by omega) (by omega)) (br_f (m1_nI (by omega)) ⟨vp_in_nI (by omega) (by decide), ?_⟩))
      rw [nI_clamp (by omega), two_n (by decide) (by decide), h59, pk_sub (by omega), nI_1]
      exact c_leastParent (P := P) (f := f) (V := V) hs (by rw [two_n (by decide) (by decide)]; exact hb) n20 hr.1 hv (by rw [two_n (by decide) (by decide)]; exact h7) (by rw [two_n (by decide) (by decide)]; exact hI) hP (by rw [two_1]; exact hg) (by omega) (riP_ex hu hu2 ha (by omega)) ⟨rfl, rfl, _, rfl, ih⟩
  exact K 0 (by omega)
theorem c_sink (hs : SL h) {P : Nat → Int32} {v b f w k : Nat} (hb : I 7 0 = nI (cP V)) (n20 : cP V ≤ 20) (hb2 : b < 20) (hf : f < 20) (hv : v < 5) (h7 : I 56 7 = nI (40 * v)) (hI : ∀ i, i < 40 → I 58 (40 * v + i) = P i) (hP : paOK V P)
    (hw : dR (pr P) b f = w) (hw2 : w < 20) (h60 : ∀ q, q < 20 → I 60 q = dI (dR (pr P) b q)) (hk : k ≤ w) (hQ : Q (some (.int (nI (skP P f w b k)))) h I L) : (CT E mX3_sink (d + 2) 0 0 [.ref (eB E + 56), .int (nI f), .int (nI k)] h I L Q) := by
  refine w_X3_sink hs _ _ ?_
  have K : ∀ s, s ≤ k → (J E mX3_sink (d + 2) Q 0 0 5 [some (.ref (eB E + 56)), some (.int (nI f)), some (.int (nI k)), some (.int (nI (skP P f w b s))), some (.int (nI (s + 1)))] [] h I L) := by
    refine dn k ?_ ?_
    · exact w_X3_sink_5 hs _ _ _ _ (br_t (nI_lt (by omega) (by omega)) hQ)
    · intro s hsk ih
      have hr := skP_ok hw hw2 hf hb2 s (by omega)
      refine w_X3_sink_5 hs _ _ _ _ (br_f (nI_nlt (by omega) (by omega)) (br_f (m1_nI (by omega)) ⟨vp_in_nI (by omega) (by decide), ?_⟩))
      rw [nI_clamp (by omega), h60 f hf, hw, dI_n (by omega), pk_sub (by omega), nI_1]
      exact c_leastChild (P := P) (b := b) (V := V) hs hb n20 hr.1 hv h7 hI hP h60 (by omega) (skP_ex hw hw2 hf hb2 (by omega)) ⟨rfl, rfl, _, rfl, ih⟩
  exact K 0 (by omega)
theorem in_rng (x : Int32) {n : Nat} (hn : n < 2 ^ 31) : (¬ x < 0 ∧ ¬ nI n ≤ x) ↔ inN x n := by
  constructor
  · rintro ⟨h1, h2⟩
    rcases pk_ix x hn with c | c | ⟨j, hj, e⟩
    · exact absurd c h1
    · exact absurd c h2
    · exact ⟨j, hj, e⟩
  · rintro ⟨j, hj, rfl⟩
    exact ⟨nI_pos (by omega), nI_ge hj hn⟩
theorem c_link (q : CQ h I V) {a b v : Nat} {y k : Int32} (ha : a < cP V) (hb : b < cP V) (hv : v < 5) (hy : ¬ y = (-1)) (hQ : ∀ I', KCr I I' → Kc I' V → Q (some (.int (chA V v y a b k))) h I' L) :
    (CT E mX3_link (d + 3) 0 0 [.ref (eB E + 56), .int (nI a), .int (nI b), .int (nI v), .int y, .int k] h I L Q) := by
  have n20 := q.w.P.n20
  refine w_X3_link q.s _ _ _ _ _ ?_
  refine c_nearest q ha hb hv hy (fun I' k1 k2 k3 k4 k5 k6 => ⟨rfl, rfl, _, rfl, ?_⟩)
  have hk := hQ I' k1 k2
  cases hf : foA V v y a b with
  | none =>
    unfold chA at hk
    rw [hf] at hk; exact br_t rfl hk
  | some f =>
    have hfl := foF_lt hf
    have ev : (oI (some f)) = nI f := rfl
    have u1 : UA V v y a f < 20 := by have := dR_99 (pr (paA V v y)) a f; unfold UA at hfl ⊢; omega
    have w1 : UA V v y b f < 20 := by have := dR_99 (pr (paA V v y)) b f; unfold UA at hfl ⊢; omega
    have e7 : I' 7 0 = nI (cP V) := by rw [k1.1 7 (by decide), bP_n q.b]; exact q.w.P.n
    rw [ev]
    refine br_f (m1_nI (by omega)) ?_
    rw [nI_clamp (by omega), k5 f (by omega), k6 f (by omega), dI_n (by omega), dI_n (by omega), nI_add]
    rcases pk_ix k (n := UA V v y a f + UA V v y b f + 1) (by omega) with c | c | ⟨j, hj, e⟩
    · refine br_t c ?_
      unfold chA at hk
      rw [hf] at hk
      dsimp only at hk
      rw [cif_f (fun hin => ((in_rng k (by omega)).mpr hin).1 c)] at hk
      exact hk
    · refine br_f (fun e => ?_) ⟨vp_in_nI (by omega) (by decide), br_f (fun e => ?_) ?_⟩
      · rw [fa_lt] at e; rw [fa_le, nI_toInt (by omega)] at c; simp at e; omega
      · rw [fa_le, nI_toInt (by omega)] at e; rw [fa_le, nI_toInt (by omega)] at c; omega
      · unfold chA at hk
        rw [hf] at hk
        dsimp only at hk
        rw [cif_f (fun hin => ((in_rng k (by omega)).mpr hin).2 c)] at hk
        exact hk
    · subst e
      refine br_f (nI_pos (by omega)) ⟨vp_in_nI (by omega) (by decide), br_t (nI_le (by omega) (by omega)) ?_⟩
      have ek : chA V v y a b (nI j) = nI (if j ≤ UA V v y a f then riP (paA V v y) f (UA V v y a f) a j else skP (paA V v y) f (UA V v y b f) b (j - UA V v y a f)) := by
        unfold chA
        rw [hf]
        dsimp only
        rw [cif_t ⟨j, hj, rfl⟩, nI_clamp (by omega)]
      rw [ek] at hQ
      by_cases c : UA V v y a f < j
      · refine br_t (nI_lt c (by omega)) ?_
        rw [pk_sub (by omega)]
        rw [if_neg (by omega)] at hQ
        exact c_sink (P := paA V v y) (V := V) (b := b) q.s e7 n20 (by omega) (by omega) hv k3 k4 (paA_ok q.w v y) rfl w1 k6 (by unfold UA at *; omega) ⟨rfl, rfl, _, rfl, hQ I' k1 k2⟩
      · refine br_f (nI_nlt (by omega) (by omega)) ?_
        rw [if_pos (by omega)] at hQ
        refine c_rise (P := paA V v y) (V := V) q.s e7 n20 (by omega) hfl.1 hv k3 k4 (paA_ok q.w v y) rfl u1 ?_ (by unfold UA at *; omega) (fun g g' => ⟨rfl, rfl, _, rfl, hQ _ ⟨fun a ha => by rw [two_n (by omega) (by omega)]; exact k1.1 a ha, fun j hj => by rw [two_n (by decide) (by decide)]; exact k1.2 j hj⟩ (k2.cg (two_n (by decide) (by decide)) (two_n (by decide) (by decide)))⟩)
        rw [k5 f (by omega), dI_n (by omega)]; rfl
end CL
