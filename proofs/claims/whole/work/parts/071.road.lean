/-! setRoad: the roads, and the ways made anew -/
section RD
variable {E : Envt} {d : Nat} {Q : Pst} {h : mS} {I : mI} {L : mL}
def rdD (r : Nat → Int32) (a b : Nat) : Nat := if a = b then 0 else if r (5 * a + b) = (-1) then 1000000 else eW r a b
theorem rd_fw {r : Nat → Int32} (hr : rOK r) (hsy : ∀ a b, a < 5 → b < 5 → r (5 * a + b) = r (5 * b + a)) : fwI r (rdD r) 0 := by
  refine ⟨fun a b ha hb => ?_, fun a _ => by simp [rdD], fun a b ha hb he => ?_, fun a b ha hb hl => ?_, fun j _ _ hj => absurd hj (by omega)⟩
  · unfold rdD
    split
    · right; omega
    · split
      · left; rfl
      · rename_i q; right; have := (eW_of hr ha hb q).2; omega
  · unfold rdD
    rw [if_neg he.1, if_neg he.2]
    exact Nat.le_refl _
  · unfold rdD at hl ⊢
    split at hl
    · rename_i q; rw [if_pos q]; exact ⟨[], trivial, q.symm, rfl⟩
    · rename_i q
      rw [if_neg q]
      split at hl
      · omega
      · rename_i q2
        rw [if_neg q2]
        refine ⟨[a], ⟨ha, ⟨fun e => q e.symm, by rw [hsy b a hb ha]; exact q2⟩, trivial⟩, rfl, ?_⟩
        show eW r b a + 0 = eW r a b
        unfold eW
        rw [hsy b a hb ha]
        omega
theorem rd_rep {w r : Nat → Int32} (hr : rOK r) (h1 : ∀ a c, a < 5 → c < 5 → a ≠ c → w (5 * a + c) = r (5 * a + c)) (h2 : ∀ a, a < 5 → w (5 * a + a) = 0) : wRep w (rdD r) := by
  intro a b ha hb
  unfold rdD
  by_cases e : a = b
  · subst e; rw [if_pos rfl, h2 a ha]; rfl
  · rw [if_neg e, h1 a b ha hb e]
    by_cases e2 : r (5 * a + b) = (-1)
    · rw [if_pos e2, e2]; rfl
    · rw [if_neg e2]
      obtain ⟨e3, e4⟩ := eW_of hr ha hb e2
      unfold rp
      rw [if_neg (by omega)]
      exact e3
theorem c_setRoad {a b : Nat} {x : Int32} (hs : SL h) (ha : a < 5) (hb : b < 5) (hne : a ≠ b) (V' : mI) (hr : rOK (V' 89)) (hsy : ∀ a b, a < 5 → b < 5 → V' 89 (5 * a + b) = V' 89 (5 * b + a))
    (hro : ∀ a' c, a' < 5 → c < 5 → a' ≠ c → upd (upd (I 22) (5 * a + b) x) (5 * b + a) x (5 * a' + c) = V' 89 (5 * a' + c)) (hdi : ∀ a', a' < 5 → I 22 (5 * a' + a') = 0)
    (hQ : ∀ g, (∀ a v, a < 5 → v < 5 → g (5 * a + v) = wyA V' a v) → Q none h (sA (sA I 22 (upd (upd (I 22) (5 * a + b) x) (5 * b + a) x)) 23 g) L) :
    (CT E mX5_setRoad (d + 2) 0 0 [.ref (eB E + 17), .int (nI a), .int (nI b), .int x] h I L Q) := by
  refine w_X5_setRoad hs _ _ _ ?_
  have ei : nI a * 5 + nI b = nI (5 * a + b) := by rw [N5, pk_mul, nI_add, Nat.mul_comm]
  have ej : nI b * 5 + nI a = nI (5 * b + a) := by rw [N5, pk_mul, nI_add, Nat.mul_comm]
  rw [ei, ej, nI_clamp (by omega), nI_clamp (by omega)]
  refine ⟨vp_in_nI (by omega) (by decide), vp_in_nI (by omega) (by decide), ?_⟩
  rw [uI_s (I := I), uI_sA]
  refine c_copyA hs (lt22 hs) (kk22 hs) (lt23 hs) (kk23 hs) (by decide) (by decide) (fun f h1 h2 => ⟨rfl, rfl, rfl, ?_⟩)
  rw [sA_at] at h1
  have hrep : wRep f (rdD (V' 89)) := by
    refine rd_rep hr (fun a' c h3 h4 h5 => ?_) (fun a' h3 => ?_)
    · rw [h1 _ (by omega) (by omega)]; exact hro a' c h3 h4 h5
    · rw [h1 _ (by omega) (by omega), upd_ne' (by omega), upd_ne' (by omega)]; exact hdi a' h3
  have hall := fw_all (rd_fw hr hsy)
  have K : ∀ k, k ≤ 5 → ∀ f, wRep f (fwN (rdD (V' 89)) k) → (J E mX5_setRoad (d + 2) Q 0 0 36 [some (.ref (eB E + 17)), some (.int (nI a)), some (.int (nI b)), some (.int x), some (.int (nI k))] [] h (sA (sA I 22 (upd (upd (I 22) (5 * a + b) x) (5 * b + a) x)) 23 f) L) := by
    refine dn 5 ?_ ?_
    · intro f hf
      refine w_X5_setRoad_36 hs _ _ _ _ (br_t (by decide) (hQ f fun a v ha hv => ?_))
      rw [hf a v ha hv]
      exact fw_end hr hsy (hall 5 (by omega)) ha hv
    · intro k hk ih f hf
      refine w_X5_setRoad_36 hs _ _ _ _ (br_f (nI_ge hk (by decide)) ?_)
      refine c_shortenWays hs hk (hall k (by omega)) (by rw [sA_at]; exact hf) (fun g hg => ⟨rfl, rfl, rfl, ?_⟩)
      rw [sA_sA, nI_1]
      exact ih g hg
  exact K 0 (by omega) f hrep
end RD
