/-! handy facts -/
theorem nI_lit (n : Nat) : (no_index (OfNat.ofNat n) : Int32) = nI n := rfl
theorem dn {S : Nat → Prop} (n : Nat) (hn : S n) (hs : ∀ k, k < n → S (k + 1) → S k) : ∀ k, k ≤ n → S k := by
  intro k hk
  have key : ∀ j k, j + k = n → S k := by
    intro j
    induction j with
    | zero => intro k hk; rw [show k = n by omega]; exact hn
    | succ j ih => intro k hk; exact hs k (by omega) (ih (k + 1) (by omega))
  exact key (n - k) k (by omega)
theorem N0 : (0 : Int32) = nI 0 := rfl
theorem N2 : (2 : Int32) = nI 2 := rfl
theorem N3 : (3 : Int32) = nI 3 := rfl
theorem N4 : (4 : Int32) = nI 4 := rfl
theorem N5 : (5 : Int32) = nI 5 := rfl
theorem N6 : (6 : Int32) = nI 6 := rfl
theorem N7 : (7 : Int32) = nI 7 := rfl
theorem N8 : (8 : Int32) = nI 8 := rfl
theorem N9 : (9 : Int32) = nI 9 := rfl
theorem N10 : (10 : Int32) = nI 10 := rfl
theorem N11 : (11 : Int32) = nI 11 := rfl
theorem N15 : (15 : Int32) = nI 15 := rfl
theorem N16 : (16 : Int32) = nI 16 := rfl
theorem N20 : (20 : Int32) = nI 20 := rfl
theorem N24 : (24 : Int32) = nI 24 := rfl
theorem N30 : (30 : Int32) = nI 30 := rfl
theorem N31 : (31 : Int32) = nI 31 := rfl
theorem N40 : (40 : Int32) = nI 40 := rfl
theorem N48 : (48 : Int32) = nI 48 := rfl
theorem N50 : (50 : Int32) = nI 50 := rfl
theorem N60 : (60 : Int32) = nI 60 := rfl
theorem N67 : (67 : Int32) = nI 67 := rfl
theorem N99 : (99 : Int32) = nI 99 := rfl
theorem N100 : (100 : Int32) = nI 100 := rfl
theorem N255 : (255 : Int32) = nI 255 := rfl
theorem N256 : (256 : Int32) = nI 256 := rfl
theorem N300 : (300 : Int32) = nI 300 := rfl
theorem N500 : (500 : Int32) = nI 500 := rfl
theorem N1000 : (1000 : Int32) = nI 1000 := rfl
