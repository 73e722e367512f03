/-! the start -/
theorem nlt0 {l : Nat} (h : l < 2 ^ 31) : ¬ nI l < 0 := by
  rw [show (0 : Int32) = nI 0 from rfl, nI_lt' h (by decide)]
  exact Nat.not_lt_zero _
section STA
variable {h h4 : mS} {I : mI}
theorem z_89 : ∀ a, a < 5 → ∀ v, v < 5 → (if 1000 ≤ tkR (fun _ => (-1)) 5 (tk0 v) a then (-1) else tkR (fun _ => (-1)) 5 (tk0 v) a : Int32) = if a = v then 0 else (-1) := by decide +kernel
/-- what the two constructors write -/
theorem Rel.start {ks : List (Nat × Nat)} {rs : List (Nat × Nat × Nat)} {J : mI} (hs : SL h4) (hno : ∀ i, h4.2.1 34 i = none ∧ h4.2.1 35 i = none ∧ h4.2.1 46 i = none) (h36 : ∀ x, x < 7 → h4.2.1 36 x = some 38) (z : ∀ a, a ≠ 1 → a ≠ 22 → a ≠ 23 → a ≠ 48 → a ≠ 57 → a ≠ 87 → a ≠ 89 → ∀ j, J a j = 0) (z1 : ∀ j, J 1 j = if j = 9 then (-1) else 0) (z22 : ∀ j, j < 25 → J 22 j = if j % 6 = 0 then 0 else (-1)) (z23 : ∀ j, j < 25 → J 23 j = J 22 j) (z57 : ∀ v, v < 5 → J 57 v = (-1)) (z87 : J 87 0 = (-1)) (z89 : ∀ j, j < 25 → J 89 j = (-1)) : Rel h4 J J := by
  have c0 : ∀ a, a ≠ 1 → a ≠ 22 → a ≠ 23 → a ≠ 48 → a ≠ 57 → a ≠ 87 → a ≠ 89 → (J a 0).toNatClampNeg = 0 := fun a h1 h2 h3 h4 h5 h6 h7 => by rw [z a h1 h2 h3 h4 h5 h6 h7]; rfl
  have cY0 : cY J = 0 := c0 88 (by decide) (by decide) (by decide) (by decide) (by decide) (by decide) (by decide)
  have cT0 : cT J = 0 := c0 85 (by decide) (by decide) (by decide) (by decide) (by decide) (by decide) (by decide)
  have cH0 : cH J = 0 := c0 90 (by decide) (by decide) (by decide) (by decide) (by decide) (by decide) (by decide)
  have cP0 : cP J = 0 := c0 95 (by decide) (by decide) (by decide) (by decide) (by decide) (by decide) (by decide)
  have cN0 : cN J = 0 := c0 104 (by decide) (by decide) (by decide) (by decide) (by decide) (by decide) (by decide)
  have cM0 : cM J = 0 := c0 106 (by decide) (by decide) (by decide) (by decide) (by decide) (by decide) (by decide)
  have zz : ∀ a, (84 ≤ a ∧ a ≤ 86) ∨ a = 88 ∨ 90 ≤ a ∨ (2 ≤ a ∧ a ≤ 21) ∨ (24 ≤ a ∧ a ≤ 47) ∨ a = 51 → ∀ j, J a j = 0 := fun a ha => z a (by omega) (by omega) (by omega) (by omega) (by omega) (by omega) (by omega)
  have fd0 : ∀ i j, fdB J i j = false := fun i j => by
    unfold fdB bt
    rw [zz 94 (by omega)]
    simp
  have n0 : ∀ {n : Nat}, 0 < n → inN (0 : Int32) n := fun hn => ⟨0, hn, rfl⟩
  have w : Wf J := by
    refine ⟨⟨by rw [cY0, zz 88 (by omega)]; rfl, by omega, by rw [cT0, zz 85 (by omega)]; rfl, by omega, fun i hi => by rw [zz 84 (by omega)]; decide⟩, ⟨by rw [cH0, zz 90 (by omega)]; rfl, by omega, fun i hi => by rw [zz 92 (by omega)]; exact n0 (by decide), fun i j _ _ => by rw [fd0, fd0], fun i _ => fd0 i i, fun i j _ e => by rw [fd0] at e; cases e⟩, ⟨by rw [cP0, zz 95 (by omega)]; rfl, by omega, fun i hi => by rw [zz 96 (by omega)]; exact n0 (by decide), fun i hi => by rw [zz 97 (by omega)]; exact Or.inl rfl, fun i hi => by rw [zz 98 (by omega)]; exact n0 (by decide), fun i hi => by rw [zz 99 (by omega)]; decide, fun i hi => by rw [zz 100 (by omega)]; exact Or.inl rfl, fun i hi => by rw [zz 102 (by omega)]; exact Or.inl rfl, fun i hi => by rw [zz 103 (by omega)]; exact Or.inl rfl, fun i hi => by omega⟩, ⟨by rw [cN0, zz 104 (by omega)]; rfl, by omega, fun k hk => by omega, fun k hk => by omega, fun k hk => by omega, fun k hk => by omega, fun k c f hk => by omega⟩, ⟨fun a b ha hb => by rw [z89 _ (by omega), z89 _ (by omega)], fun a b ha hb => Or.inl (z89 _ (by omega))⟩, ⟨by rw [cM0, zz 106 (by omega)]; rfl, by omega, fun k hk => by omega, fun k hk => by omega, fun k hk => by omega, fun k hk => by omega, fun k hk => by omega, fun k hk => by omega, fun k hk => by omega, fun m k hm => by omega⟩, ⟨fun x hx => by rw [zz 116 (by omega)]; exact n0 (by decide), fun r hr => by rw [zz 117 (by omega)]; exact n0 (by decide), fun x l _ _ _ _ => by rw [zz 118 (by omega)]; exact Or.inl rfl, fun x l hx hl e => ?_, fun r hr => by rw [zz 119 (by omega)]; exact n0 (by decide), fun r hr e => by rw [zz 119 (by omega)]; exact n0 (by decide), fun q hq => ⟨0, by decide, Or.inl (zz 120 (by omega) q)⟩, fun r j hr hj e => ?_, fun r j hr hj e => ?_⟩, fun m j _ _ => by rw [zz 115 (by omega)]; exact Or.inl rfl⟩
    · rw [zz 116 (by omega)] at e
      exact absurd e (nlt0 (by omega))
    · rw [zz 117 (by omega)] at e
      exact absurd e (nlt0 (by omega))
    · rw [zz 117 (by omega)] at e
      exact absurd e (nlt0 (by omega))
  have lt : LT h4 38 0 0 := by
    have k := hs.2.1
    have r := hs.2.2
    have h147 := hs.1
    exact ⟨by omega, ⟨k 38 (by decide), k 39 (by decide), k 40 (by decide), k 41 (by decide), k 42 (by decide), k 43 (by decide), k 44 (by decide), k 45 (by decide)⟩, ⟨r (38, 1, 39) (by decide +kernel), r (38, 2, 40) (by decide +kernel), r (38, 3, 41) (by decide +kernel), r (38, 4, 42) (by decide +kernel), r (38, 5, 43) (by decide +kernel), r (38, 6, 44) (by decide +kernel), r (38, 7, 45) (by decide +kernel)⟩, by decide, by decide⟩
  have tr : ∀ x, TR h4 J J 38 x := fun x => by
    refine ⟨0, by decide, lt, Or.inl rfl, by rw [zz 38 (by omega)]; rfl, by rw [zz 116 (by omega)]; rfl, fun l hl => ?_, fun l hl => by omega, fun l hl => by omega, fun l j hl => by omega, fun l j hl => by omega, fun l j hl => by omega, fun l j hl => by omega⟩
    have : l = 0 := by omega
    subst this
    rw [zz 41 (by omega)]; rfl
  have b : Bk h4 J 1 J := by
    refine ⟨⟨?_, ?_, ?_, ?_, fun i hi => by omega⟩, ⟨?_, ?_, ?_, ?_, ?_⟩, ⟨?_, ?_, ?_, ?_, ?_, ?_, fun i hi => by omega, ?_, fun i hi => by omega, ?_, ?_⟩, ⟨fun i hi => by omega, trivial⟩, ⟨?_, ?_, ?_, ?_, ?_, fun a c ha hc hne => ?_, fun a ha => ?_, fun a v ha hv => ?_⟩, ⟨?_, ?_, ?_, ?_, ?_, ?_, ?_, ?_, ?_, fun m j hm => by omega⟩, ⟨fun x hx => ⟨38, h36 x hx, tr x⟩, fun m hm => by omega, fun i t _ e => ?_, fun i t _ e => ?_⟩⟩
    · rw [z1, zz 88 (by omega)]; rfl
    · rw [z1, zz 85 (by omega)]; rfl
    · rw [z1, zz 86 (by omega)]; rfl
    · rw [z1, z87]; rfl
    · rw [zz 90 (by omega)]; exact zz 2 (by omega) 0
    · intro i _; rw [zz 91 (by omega)]; exact zz 3 (by omega) i
    · intro i _; rw [zz 92 (by omega)]; exact zz 4 (by omega) i
    · intro i _; rw [zz 93 (by omega)]; exact zz 5 (by omega) i
    · intro i _; rw [zz 94 (by omega)]; exact zz 6 (by omega) i
    · rw [zz 95 (by omega)]; exact zz 7 (by omega) 0
    · intro i _; rw [zz 96 (by omega)]; exact zz 8 (by omega) i
    · intro i _; rw [zz 97 (by omega)]; exact zz 9 (by omega) i
    · intro i _; rw [zz 98 (by omega)]; exact zz 10 (by omega) i
    · intro i _; rw [zz 99 (by omega)]; exact zz 11 (by omega) i
    · intro i _; rw [zz 101 (by omega)]; exact zz 12 (by omega) i
    · intro i _; rw [zz 102 (by omega)]; exact zz 15 (by omega) i
    · intro i _; exact Or.inl (zz 14 (by omega) i)
    · intro i _; exact Or.inl (zz 16 (by omega) i)
    · rw [zz 104 (by omega)]; exact zz 17 (by omega) 0
    · intro i _; rw [zz 105 (by omega)]; exact zz 18 (by omega) i
    · intro i _; rw [zz 105 (by omega)]; exact zz 19 (by omega) i
    · intro i _; rw [zz 105 (by omega)]; exact zz 20 (by omega) i
    · intro i _; rw [zz 105 (by omega)]; exact zz 21 (by omega) i
    · rw [z89 _ (by omega)]
      show J 22 (5 * a + c) = _
      rw [z22 _ (by omega), if_neg (by omega)]
    · show J 22 (5 * a + a) = _
      rw [z22 _ (by omega), if_pos (by omega)]
    · show J 23 (5 * a + v) = _
      rw [z23 _ (by omega), z22 _ (by omega)]
      unfold wyA tkS
      rw [tkR_cg (r := fun _ => (-1)) (r' := J 89) (fun a b ha hb => z89 _ (by omega)), z_89 a ha v hv]
      by_cases e : a = v
      · rw [if_pos e, if_pos (by omega)]
      · rw [if_neg e, if_neg (by omega)]
    · rw [zz 106 (by omega)]; exact zz 24 (by omega) 0
    · intro i _; rw [zz 107 (by omega)]; exact zz 25 (by omega) i
    · intro i _; rw [zz 108 (by omega)]; exact zz 26 (by omega) i
    · intro i _; rw [zz 109 (by omega)]; exact zz 27 (by omega) i
    · intro i _; rw [zz 110 (by omega)]; exact zz 28 (by omega) i
    · intro i _; rw [zz 111 (by omega)]; exact zz 29 (by omega) i
    · intro i _; rw [zz 112 (by omega)]; exact zz 30 (by omega) i
    · intro i _; rw [zz 113 (by omega)]; exact zz 31 (by omega) i
    · intro i _; rw [zz 114 (by omega)]; exact zz 32 (by omega) i
    · have e : h4.2.1 34 i = some t := e
      rw [(hno i).1] at e; cases e
    · have e : h4.2.1 35 i = some t := e
      rw [(hno i).2.1] at e; cases e
  refine ⟨⟨hs, b, w, fun v hv hn => absurd (z57 v hv) hn⟩, fun a _ _ => rfl, zz 51 (by omega) 0, fun k _ => Or.inl ⟨(hno k).2.2, zz 146 (by omega) k⟩, fun j k c _ _ _ e => ?_⟩
  rw [(hno j).2.2] at e; cases e
end STA
