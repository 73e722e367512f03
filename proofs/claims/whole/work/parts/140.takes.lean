/-! takeFrom: one book becomes as another -/
def RF (h h' : mS) (a1 : Nat) : Prop := h'.1 = h.1 ∧ h'.2.2 = h.2.2 ∧ ∀ a, a ≠ a1 → h'.2.1 a = h.2.1 a
theorem RF.rf {h : mS} {a1 : Nat} : RF h h a1 := ⟨rfl, rfl, fun _ _ => rfl⟩
theorem RF.u {h : mS} {a1 i : Nat} {r : Option Nat} : RF h (uRh h a1 i r) a1 := ⟨rfl, rfl, fun a ha => uR_ne ha⟩
theorem RF.tr {h h' h'' : mS} {a1 : Nat} (u : RF h h' a1) (v : RF h' h'' a1) : RF h h'' a1 := ⟨v.1.trans u.1, v.2.1.trans u.2.1, fun a ha => (v.2.2 a ha).trans (u.2.2 a ha)⟩
theorem LT.rf {h h' : mS} {t nl nt a1 n : Nat} (w : LT h t nl nt) (u : RF h h' a1) (hk : h.1 a1 = (18, n)) : LT h' t nl nt := by
  have ne := LT_ne w (k := 7) hk
  obtain ⟨h1, h2, h3⟩ := u
  obtain ⟨a, b, r, c⟩ := w
  exact ⟨by rw [h2]; exact a, by rw [h1]; exact b, by rw [h3 t ne]; exact r, c⟩
theorem lay_no {a1 : Nat} (h : a1 = 34 ∨ a1 = 35 ∨ a1 = 36 ∨ 147 ≤ a1) : layR.all (fun q => q.1 != a1) = true := by
  have hlay : ∀ q ∈ layR, q.1 < 147 ∧ q.1 ≠ 34 ∧ q.1 ≠ 35 ∧ q.1 ≠ 36 := by decide +kernel
  refine List.all_eq_true.mpr fun q hq => ?_
  have := hlay q hq
  have ne : q.1 ≠ a1 := by omega
  simpa using ne
section TKS
variable {E : Envt} {d : Nat} {Q : Pst} {h : mS} {I V : mI} {L : mL}
theorem c_texts {a0 a1 n : Nat} (hs : SL h) (hl0 : a0 < h.2.2) (hk0 : h.1 a0 = (18, n)) (hl1 : a1 < h.2.2) (hk1 : h.1 a1 = (18, n)) (hn : n < 2 ^ 31) (hne : a0 ≠ a1) (ha1 : a1 = 34 ∨ a1 = 35 ∨ a1 = 36 ∨ 147 ≤ a1) (ht : ∀ i t, i < n → h.2.1 a0 i = some t → ∃ nl nt, LT h t nl nt) (hQ : ∀ h', SL h' → RF h h' a1 → (∀ i, i < n → h'.2.1 a1 i = h.2.1 a0 i) → Q none h' I L) : (CT E mX11_copyTexts d 0 0 [.ref (eB E + a0), .ref (eB E + a1)] h I L Q) := by
  have K : ∀ k, k ≤ n → ∀ h', SL h' → RF h h' a1 → (∀ i, i < k → h'.2.1 a1 i = h.2.1 a0 i) → J E mX11_copyTexts d Q 0 0 2 [some (.ref (eB E + a0)), some (.ref (eB E + a1)), some (.int (nI k))] [] h' I L := by
    refine dn n ?_ ?_
    · intro h' hs' u' e'
      refine w_X11_copyTexts_2 hs' (n0 := n) (n1 := n) (by rw [u'.2.1]; exact hl0) (by rw [u'.1]; exact hk0) (by rw [u'.2.1]; exact hl1) (by rw [u'.1]; exact hk1) _ ?_
      exact br_t (nI_le (Nat.le_refl _) hn) (hQ h' hs' u' e')
    · intro k hk ih h' hs' u' e'
      refine w_X11_copyTexts_2 hs' (n0 := n) (n1 := n) (by rw [u'.2.1]; exact hl0) (by rw [u'.1]; exact hk0) (by rw [u'.2.1]; exact hl1) (by rw [u'.1]; exact hk1) _ ?_
      rw [nI_clamp (by omega), nI_1]
      have e0 : h'.2.1 a0 k = h.2.1 a0 k := by rw [u'.2.2 a0 hne]
      have nxt : ∀ r, h.2.1 a0 k = r → SL (uRh h' a1 k r) ∧ J E mX11_copyTexts d Q 0 0 2 [some (.ref (eB E + a0)), some (.ref (eB E + a1)), some (.int (nI (k + 1)))] [] (uRh h' a1 k r) I L := fun r er => by
        have hs2 : SL (uRh h' a1 k r) := SL_uR hs' (lay_no ha1)
        refine ⟨hs2, ih _ hs2 (u'.tr RF.u) (fun i hi => ?_)⟩
        show uR h'.2.1 a1 k r a1 i = _
        unfold uR
        by_cases e : i = k
        · subst e; simp [er]
        · simp [e]; exact e' i (by omega)
      refine br_f (nI_ge hk hn) (br_f (nI_ge hk hn) ⟨vp_in_nI hk hn, fun en => ?_, fun t en => ?_⟩)
      · exact ⟨vp_in_nI hk hn, nxt none (by rw [← e0]; exact en)⟩
      · have et : h.2.1 a0 k = some t := by rw [← e0]; exact en
        obtain ⟨nl, nt, lt⟩ := ht k t hk et
        exact ⟨vp_in_nI hk hn, nl, nt, lt.rf u' hk1, nxt (some t) et⟩
  exact w_X11_copyTexts hs hl0 hk0 hl1 hk1 (K 0 (by omega) h hs RF.rf (fun i hi => by omega))
/-- the first k rows are the other's -/
def TKk (I I' : mI) (p s : Nat) (ks : List (Nat × Nat)) (k : Nat) : Prop := (∀ a, a < p ∨ p + k ≤ a → I' a = I a) ∧ I' p 0 = I s 0 ∧ ∀ j q, 1 ≤ j → j < k → ks[j]? = some q → ∀ i, i < q.2 → I' (p + j) i = I (s + j) i
theorem TKk.one {p s : Nat} {ks : List (Nat × Nat)} (hne : s ≠ p) : TKk I (uI I p 0 (I s 0)) p s ks 1 := ⟨fun a ha => uI_ne (by omega), uI_eq, fun j q h1 h2 => by omega⟩
theorem TKk.step {I' : mI} {p s k n kk : Nat} {ks : List (Nat × Nat)} {f : Nat → Int32} (t : TKk I I' p s ks k) (hk0 : 1 ≤ k) (hk : ks[k]? = some (kk, n)) (hd : s + k < p ∨ p + k < s + k) (hd2 : s + k < p ∨ p + k ≤ s + k) (hf : ∀ i, i < n → f i = I' (s + k) i) : TKk I (sA I' (p + k) f) p s ks (k + 1) := by
  obtain ⟨t1, t2, t3⟩ := t
  refine ⟨fun a ha => by rw [sA_ne (by omega)]; exact t1 a (by omega), by rw [sA_ne (by omega)]; exact t2, fun j q h1 h2 hj i hi => ?_⟩
  by_cases e : j = k
  · subst e
    rw [hk] at hj
    cases hj
    rw [sA_at, hf i hi, t1 (s + j) (by omega)]
  · rw [sA_ne (by omega)]; exact t3 j q h1 (by omega) hj i hi
theorem c_tk1 {p s : Nat} (hs : SL h) (lp : LO h p ksX1 rsX1) (ls : LO h s ksX1 rsX1) (hd : s + 5 ≤ p ∨ p + 5 ≤ s) (hQ : ∀ I', TKk I I' p s ksX1 5 → Q none h I' L) : CT E mX1_takeFrom (d + 2) 0 0 [.ref (eB E + p), .ref (eB E + s)] h I L Q := by
  refine w_X1_takeFrom hs lp ls ?_
  have t1 : TKk I (uI I p 0 (I s 0)) p s ksX1 1 := TKk.one (by omega)
  refine c_copyA hs (ls.lt 1 rfl) (ls.kd 1 rfl) (lp.lt 1 rfl) (lp.kd 1 rfl) (by decide) (by decide) (fun f1 g1 _ => qv_i ?_)
  have t2 := t1.step (by decide) rfl (by omega) (by omega) (fun i hi => g1 i hi hi)
  refine c_copyA hs (ls.lt 2 rfl) (ls.kd 2 rfl) (lp.lt 2 rfl) (lp.kd 2 rfl) (by decide) (by decide) (fun f2 g2 _ => qv_i ?_)
  have t3 := t2.step (by decide) rfl (by omega) (by omega) (fun i hi => g2 i hi hi)
  refine c_copyA hs (ls.lt 3 rfl) (ls.kd 3 rfl) (lp.lt 3 rfl) (lp.kd 3 rfl) (by decide) (by decide) (fun f3 g3 _ => qv_i ?_)
  have t4 := t3.step (by decide) rfl (by omega) (by omega) (fun i hi => g3 i hi hi)
  refine c_copyA hs (ls.lt 4 rfl) (ls.kd 4 rfl) (lp.lt 4 rfl) (lp.kd 4 rfl) (by decide) (by decide) (fun f4 g4 _ => qv_i ?_)
  have t5 := t4.step (by decide) rfl (by omega) (by omega) (fun i hi => g4 i hi hi)
  exact hQ _ t5
theorem c_tk7 {p s : Nat} (hs : SL h) (lp : LO h p ksX7 rsX7) (ls : LO h s ksX7 rsX7) (hd : s + 10 ≤ p ∨ p + 10 ≤ s) (z7 : ∀ i, i < 20 → bz (I (s + 7) i)) (z8 : ∀ i, i < 20 → bz (I (s + 8) i)) (z9 : ∀ i, i < 20 → bz (I (s + 9) i)) (hQ : ∀ I', TKk I I' p s ksX7 10 → Q none h I' L) : CT E mX7_takeFrom (d + 2) 0 0 [.ref (eB E + p), .ref (eB E + s)] h I L Q := by
  refine w_X7_takeFrom hs lp ls ?_
  have t1 : TKk I (uI I p 0 (I s 0)) p s ksX7 1 := TKk.one (by omega)
  refine c_copyA hs (ls.lt 1 rfl) (ls.kd 1 rfl) (lp.lt 1 rfl) (lp.kd 1 rfl) (by decide) (by decide) (fun f1 g1 _ => qv_i ?_)
  have t2 := t1.step (by decide) rfl (by omega) (by omega) (fun i hi => g1 i hi hi)
  refine c_copyA hs (ls.lt 2 rfl) (ls.kd 2 rfl) (lp.lt 2 rfl) (lp.kd 2 rfl) (by decide) (by decide) (fun f2 g2 _ => qv_i ?_)
  have t3 := t2.step (by decide) rfl (by omega) (by omega) (fun i hi => g2 i hi hi)
  refine c_copyA hs (ls.lt 3 rfl) (ls.kd 3 rfl) (lp.lt 3 rfl) (lp.kd 3 rfl) (by decide) (by decide) (fun f3 g3 _ => qv_i ?_)
  have t4 := t3.step (by decide) rfl (by omega) (by omega) (fun i hi => g3 i hi hi)
  refine c_copyA hs (ls.lt 4 rfl) (ls.kd 4 rfl) (lp.lt 4 rfl) (lp.kd 4 rfl) (by decide) (by decide) (fun f4 g4 _ => qv_i ?_)
  have t5 := t4.step (by decide) rfl (by omega) (by omega) (fun i hi => g4 i hi hi)
  refine c_copyA hs (ls.lt 5 rfl) (ls.kd 5 rfl) (lp.lt 5 rfl) (lp.kd 5 rfl) (by decide) (by decide) (fun f5 g5 _ => qv_i ?_)
  have t6 := t5.step (by decide) rfl (by omega) (by omega) (fun i hi => g5 i hi hi)
  refine c_copyA hs (ls.lt 6 rfl) (ls.kd 6 rfl) (lp.lt 6 rfl) (lp.kd 6 rfl) (by decide) (by decide) (fun f6 g6 _ => qv_i ?_)
  have t7 := t6.step (by decide) rfl (by omega) (by omega) (fun i hi => g6 i hi hi)
  refine c_flagsA hs (ls.lt 7 rfl) (ls.kd 7 rfl) (lp.lt 7 rfl) (lp.kd 7 rfl) (by decide) (by decide) (by omega) (fun i hi => by rw [t7.1 (s + 7) (by omega)]; exact z7 i hi) (fun f7 g7 _ => qv_i ?_)
  have t8 := t7.step (by decide) rfl (by omega) (by omega) (fun i hi => g7 i hi)
  refine c_flagsA hs (ls.lt 8 rfl) (ls.kd 8 rfl) (lp.lt 8 rfl) (lp.kd 8 rfl) (by decide) (by decide) (by omega) (fun i hi => by rw [t8.1 (s + 8) (by omega)]; exact z8 i hi) (fun f8 g8 _ => qv_i ?_)
  have t9 := t8.step (by decide) rfl (by omega) (by omega) (fun i hi => g8 i hi)
  refine c_flagsA hs (ls.lt 9 rfl) (ls.kd 9 rfl) (lp.lt 9 rfl) (lp.kd 9 rfl) (by decide) (by decide) (by omega) (fun i hi => by rw [t9.1 (s + 9) (by omega)]; exact z9 i hi) (fun f9 g9 _ => qv_i ?_)
  have t10 := t9.step (by decide) rfl (by omega) (by omega) (fun i hi => g9 i hi)
  exact hQ _ t10
theorem c_tk5 {p s : Nat} (hs : SL h) (lp : LO h p ksX5 rsX5) (ls : LO h s ksX5 rsX5) (hd : s + 7 ≤ p ∨ p + 7 ≤ s) (hQ : ∀ I', TKk I I' p s ksX5 7 → Q none h I' L) : CT E mX5_takeFrom (d + 2) 0 0 [.ref (eB E + p), .ref (eB E + s)] h I L Q := by
  refine w_X5_takeFrom hs lp ls ?_
  have t1 : TKk I (uI I p 0 (I s 0)) p s ksX5 1 := TKk.one (by omega)
  refine c_copyA hs (ls.lt 1 rfl) (ls.kd 1 rfl) (lp.lt 1 rfl) (lp.kd 1 rfl) (by decide) (by decide) (fun f1 g1 _ => qv_i ?_)
  have t2 := t1.step (by decide) rfl (by omega) (by omega) (fun i hi => g1 i hi hi)
  refine c_copyA hs (ls.lt 2 rfl) (ls.kd 2 rfl) (lp.lt 2 rfl) (lp.kd 2 rfl) (by decide) (by decide) (fun f2 g2 _ => qv_i ?_)
  have t3 := t2.step (by decide) rfl (by omega) (by omega) (fun i hi => g2 i hi hi)
  refine c_copyA hs (ls.lt 3 rfl) (ls.kd 3 rfl) (lp.lt 3 rfl) (lp.kd 3 rfl) (by decide) (by decide) (fun f3 g3 _ => qv_i ?_)
  have t4 := t3.step (by decide) rfl (by omega) (by omega) (fun i hi => g3 i hi hi)
  refine c_copyA hs (ls.lt 4 rfl) (ls.kd 4 rfl) (lp.lt 4 rfl) (lp.kd 4 rfl) (by decide) (by decide) (fun f4 g4 _ => qv_i ?_)
  have t5 := t4.step (by decide) rfl (by omega) (by omega) (fun i hi => g4 i hi hi)
  refine c_copyA hs (ls.lt 5 rfl) (ls.kd 5 rfl) (lp.lt 5 rfl) (lp.kd 5 rfl) (by decide) (by decide) (fun f5 g5 _ => qv_i ?_)
  have t6 := t5.step (by decide) rfl (by omega) (by omega) (fun i hi => g5 i hi hi)
  refine c_copyA hs (ls.lt 6 rfl) (ls.kd 6 rfl) (lp.lt 6 rfl) (lp.kd 6 rfl) (by decide) (by decide) (fun f6 g6 _ => qv_i ?_)
  have t7 := t6.step (by decide) rfl (by omega) (by omega) (fun i hi => g6 i hi hi)
  exact hQ _ t7
theorem LO.rf2 {h h' : mS} {p a1 : Nat} {ks : List (Nat × Nat)} {rs : List (Nat × Nat × Nat)} (m : LO h p ks rs) (u : RF h h' a1) (hn : ∀ q ∈ rs, p + q.1 ≠ a1) : LO h' p ks rs := ⟨by rw [u.2.1]; exact m.1, by rw [u.1]; exact m.2.1, fun q hq => by rw [u.2.2 _ (hn q hq)]; exact m.2.2 q hq⟩
theorem c_tk4 {p s : Nat} (hs : SL h) (lp : LO h p ksX4 rsX4) (ls : LO h s ksX4 rsX4) (hd : s + 12 ≤ p ∨ p + 12 ≤ s) (hp : p = 24 ∨ 147 ≤ p) (ha : ∀ i t, i < 30 → h.2.1 (s + 10) i = some t → ∃ nl nt, LT h t nl nt) (hb : ∀ i t, i < 30 → h.2.1 (s + 11) i = some t → ∃ nl nt, LT h t nl nt) (hQ : ∀ h' I', SL h' → h'.1 = h.1 → h'.2.2 = h.2.2 → (∀ a, a ≠ p + 10 → a ≠ p + 11 → h'.2.1 a = h.2.1 a) → (∀ i, i < 30 → h'.2.1 (p + 10) i = h.2.1 (s + 10) i) → (∀ i, i < 30 → h'.2.1 (p + 11) i = h.2.1 (s + 11) i) → TKk I I' p s ksX4 10 → Q none h' I' L) : CT E mX4_takeFrom (d + 2) 0 0 [.ref (eB E + p), .ref (eB E + s)] h I L Q := by
  have hr : ∀ q ∈ rsX4, q.1 = 0 := by decide
  refine w_X4_takeFrom hs lp ls ?_
  have t1 : TKk I (uI I p 0 (I s 0)) p s ksX4 1 := TKk.one (by omega)
  refine c_copyA hs (ls.lt 1 rfl) (ls.kd 1 rfl) (lp.lt 1 rfl) (lp.kd 1 rfl) (by decide) (by decide) (fun f1 g1 _ => qv_i ?_)
  have t2 := t1.step (by decide) rfl (by omega) (by omega) (fun i hi => g1 i hi hi)
  refine c_copyA hs (ls.lt 2 rfl) (ls.kd 2 rfl) (lp.lt 2 rfl) (lp.kd 2 rfl) (by decide) (by decide) (fun f2 g2 _ => qv_i ?_)
  have t3 := t2.step (by decide) rfl (by omega) (by omega) (fun i hi => g2 i hi hi)
  refine c_copyA hs (ls.lt 3 rfl) (ls.kd 3 rfl) (lp.lt 3 rfl) (lp.kd 3 rfl) (by decide) (by decide) (fun f3 g3 _ => qv_i ?_)
  have t4 := t3.step (by decide) rfl (by omega) (by omega) (fun i hi => g3 i hi hi)
  refine c_copyA hs (ls.lt 4 rfl) (ls.kd 4 rfl) (lp.lt 4 rfl) (lp.kd 4 rfl) (by decide) (by decide) (fun f4 g4 _ => qv_i ?_)
  have t5 := t4.step (by decide) rfl (by omega) (by omega) (fun i hi => g4 i hi hi)
  refine c_copyA hs (ls.lt 5 rfl) (ls.kd 5 rfl) (lp.lt 5 rfl) (lp.kd 5 rfl) (by decide) (by decide) (fun f5 g5 _ => qv_i ?_)
  have t6 := t5.step (by decide) rfl (by omega) (by omega) (fun i hi => g5 i hi hi)
  refine c_copyA hs (ls.lt 6 rfl) (ls.kd 6 rfl) (lp.lt 6 rfl) (lp.kd 6 rfl) (by decide) (by decide) (fun f6 g6 _ => qv_i ?_)
  have t7 := t6.step (by decide) rfl (by omega) (by omega) (fun i hi => g6 i hi hi)
  refine c_copyA hs (ls.lt 7 rfl) (ls.kd 7 rfl) (lp.lt 7 rfl) (lp.kd 7 rfl) (by decide) (by decide) (fun f7 g7 _ => qv_i ?_)
  have t8 := t7.step (by decide) rfl (by omega) (by omega) (fun i hi => g7 i hi hi)
  refine c_copyA hs (ls.lt 8 rfl) (ls.kd 8 rfl) (lp.lt 8 rfl) (lp.kd 8 rfl) (by decide) (by decide) (fun f8 g8 _ => qv_i ?_)
  have t9 := t8.step (by decide) rfl (by omega) (by omega) (fun i hi => g8 i hi hi)
  refine c_copyA hs (ls.lt 9 rfl) (ls.kd 9 rfl) (lp.lt 9 rfl) (lp.kd 9 rfl) (by decide) (by decide) (fun f9 g9 _ => qv_i ?_)
  have t10 := t9.step (by decide) rfl (by omega) (by omega) (fun i hi => g9 i hi hi)
  refine c_texts hs (ls.lt 10 rfl) (ls.kd 10 rfl) (lp.lt 10 rfl) (lp.kd 10 rfl) (by decide) (by omega) (by omega) ha (fun h1 hs1 u1 e1 => gv_i ⟨hs1, lp.rf2 u1 (fun q hq => by have := hr q hq; omega), ls.rf2 u1 (fun q hq => by have := hr q hq; omega), ?_⟩)
  have lp1 := lp.rf2 u1 (fun q hq => by have := hr q hq; omega)
  have ls1 := ls.rf2 u1 (fun q hq => by have := hr q hq; omega)
  refine c_texts hs1 (ls1.lt 11 rfl) (ls1.kd 11 rfl) (lp1.lt 11 rfl) (lp1.kd 11 rfl) (by decide) (by omega) (by omega) (fun i t hi e => ?_) (fun h2 hs2 u2 e2 => gv_i ⟨hs2, lp1.rf2 u2 (fun q hq => by have := hr q hq; omega), ls1.rf2 u2 (fun q hq => by have := hr q hq; omega), ?_⟩)
  · rw [u1.2.2 _ (by omega)] at e
    obtain ⟨nl, nt, lt⟩ := hb i t hi e
    exact ⟨nl, nt, lt.rf u1 (lp.kd 10 rfl)⟩
  · refine hQ _ _ hs2 (u2.1.trans u1.1) (u2.2.1.trans u1.2.1) (fun a h1 h2 => (u2.2.2 a h2).trans (u1.2.2 a h1)) (fun i hi => ?_) (fun i hi => ?_) t10
    · rw [u2.2.2 _ (by omega)]; exact e1 i hi
    · rw [e2 i hi, u1.2.2 _ (by omega)]
end TKS
