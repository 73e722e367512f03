/-! static facts: classes, array classes, String constants, nest links, the script -/
def sIdx : List Nat := [96, 117, 150, 152, 154, 156, 158, 160, 162, 164, 166, 168, 170, 115, 172, 174, 176, 178, 180]
def sTx : List String := ["if", "not", "clan", "home", "feud", "widow", "elder", "star", "kin", "age", "bride", "gap", "rich", "and", "more", "less", "bar", "gift", "back"]
def sLen : List Nat := [2, 3, 4, 4, 4, 5, 5, 4, 3, 3, 5, 3, 4, 3, 4, 4, 3, 4, 4]
def sByt : List (List Int32) := [[105, 102], [110, 111, 116], [99, 108, 97, 110], [104, 111, 109, 101], [102, 101, 117, 100], [119, 105, 100, 111, 119], [101, 108, 100, 101, 114], [115, 116, 97, 114], [107, 105, 110], [97, 103, 101], [98, 114, 105, 100, 101], [103, 97, 112], [114, 105, 99, 104], [97, 110, 100], [109, 111, 114, 101], [108, 101, 115, 115], [98, 97, 114], [103, 105, 102, 116], [98, 97, 99, 107]]
def nestW : List (String × Nat × MethodName) := [(RX0, 11, yX1_init), (RX0, 20, yX7_init), (RX5, 36, yX11_copy), (RX0, 34, yX4_init), (RX3, 78, yX11_clearRow), (RX8, 62, yX11_copy), (RX8, 85, yX11_copyFlags), (RX2, 59, yX11_bit), (RX9, 103, yX11_copy), (RX1, 34, yX11_copy), (RX7, 55, yX11_copy), (RX7, 59, yX11_copyFlags), (RX4, 70, yX11_copy), (RX4, 74, yX11_copyTexts), (RX0, 82, yX11_copyTexts)]

def Sf (E : Envt) (U : State) (H : Heap) : Prop :=
  va_K (eD E) vwCl (tysE E) U ∧ vk_S 19 sLen sByt (eK E) (eV E) (fun q => eB E ≤ q) U H ∧ (∀ i : Nat, i < 19 → vk_R RX8 (sIdx.getD i 0) (sTx.getD i "") (eK E i) U) ∧ (∀ q ∈ nestW, va_Nw (.methodLinkNest q.1 q.2.1 q.2.2 RX11) U) ∧
  va_Z "java/lang/String" "COMPACT_STRINGS" "Z" (.int 1) (fun q => eB E ≤ q) U H ∧ va_X (eb E) (eN E) (ex E) U H ∧ eb E < eB E ∧ eN E < 2 ^ 31 ∧ va_AO RX0 U ∧ va_AO RX10 U ∧ va_Zq "jdk/internal/util/Preconditions" "SIOOBE_FORMATTER" "Ljava/util/function/BiFunction;" (fun q => eB E ≤ q) U H
theorem Sf.warm {E : Envt} {s U : State} {H : Heap} (hW : s.WarmedH U.vm) (h : Sf E s H) : Sf E U H := by
  obtain ⟨h1, h2, h3, h4, h5, h6, h7, h8, h9, h10, h11⟩ := h
  exact ⟨va_K.moved hW.alike h1, vk_S.moved hW.alike h2, fun i hi => (h3 i hi).warm hW, fun q hq => va_Nw.warmM hW (h4 q hq), va_Z.moved hW.alike h5, va_X.moved hW.alike h6, h7, h8, h9.moved hW.alike, h10.moved hW.alike, h11.moved hW.alike⟩
theorem Sf.kept {E : Envt} {U : State} {H H1 : Heap} (h : Sf E U H) (hq : ∀ a : Nat, a < eB E → H1[a]? = H[a]?) : Sf E U H1 := by
  obtain ⟨h1, h2, h3, h4, h5, h6, h7, h8, h9, h10, h11⟩ := h
  have hq' : ∀ a : Nat, a < H.size → ¬ (eB E ≤ a) → H1[a]? = H[a]? := fun a _ h => hq a (Nat.not_le.mp h)
  refine ⟨h1, vk_S.kept h2 hq', h3, h4, va_Z.kept h5 hq', ?_, h7, h8, h9, h10, h11.kept hq'⟩
  obtain ⟨scr, q1, q2⟩ := h6
  exact ⟨scr, by rw [hq _ h7]; exact q1, q2⟩
def Hp (E : Envt) (h : mS) (I : mI) (L : mL) (H : Heap) : Prop := va_P (eD E) vwCl (wsOf E h I L) H ∧ H.size = eB E + h.2.2 ∧ ∀ a, h.2.2 ≤ a → (∀ j, I a j = 0) ∧ (∀ j, L a j = 0) ∧ ∀ j, h.2.1 a j = none
/-! the words that every method has -/
def gT : List Cond := lw_tbl.filter goodWord
theorem gT_good : GoodIn gT gT := by
  intro w hw
  exact ⟨hw, good_of_word (List.mem_filter.mp hw).2⟩
theorem gT_lw {w : Cond} (h : w ∈ lw_tbl) (hg : goodWord w = true) : w ∈ gT := List.mem_filter.mpr ⟨h, hg⟩
/-! locals -/
def toA : Nat → List (Option Value) → List (Nat × Value)
  | _, [] => []
  | i, none :: t => toA (i + 1) t
  | i, some v :: t => (i, v) :: toA (i + 1) t
theorem toA_mem {vs : List (Option Value)} : ∀ {i j : Nat} {w : Value}, (j, w) ∈ toA i vs ↔ ∃ k, j = i + k ∧ vs[k]? = some (some w) := by
  induction vs with
  | nil => intro i j w; simp [toA]
  | cons o t ih =>
    intro i j w
    cases o with
    | none =>
      rw [toA, ih]
      constructor
      · rintro ⟨k, rfl, h⟩; exact ⟨k + 1, by omega, by simpa using h⟩
      · rintro ⟨k, rfl, h⟩
        cases k with
        | zero => simp at h
        | succ k => exact ⟨k, by omega, by simpa using h⟩
    | some v =>
      rw [toA, List.mem_cons, ih]
      constructor
      · rintro (h | ⟨k, rfl, h⟩)
        · cases h; exact ⟨0, by omega, by simp⟩
        · exact ⟨k + 1, by omega, by simpa using h⟩
      · rintro ⟨k, rfl, h⟩
        cases k with
        | zero => left; simp at h; subst h; rfl
        | succ k => right; exact ⟨k, by omega, by simpa using h⟩
def LV (ls : Array Slot) (nL : Nat) (vs : List (Option Value)) : Prop := lv_has ls nL (toA 0 vs)
theorem LV.get {ls : Array Slot} {nL : Nat} {vs : List (Option Value)} (h : LV ls nL vs) {i : Nat} {v : Value} (hv : vs[i]? = some (some v)) : ls[i]? = some (.val v) := h.2.2 (i, v) (toA_mem.mpr ⟨i, by omega, hv⟩)
theorem LV.of {ls : Array Slot} {nL : Nat} {vs : List (Option Value)} {l : List (Nat × Value)} (h : lv_has ls nL l) (hs : ∀ (i : Nat) (v : Value), vs[i]? = some (some v) → (i, v) ∈ l) : LV ls nL vs := by
  refine ⟨h.1, h.2.1, fun q hq => ?_⟩
  obtain ⟨j, w⟩ := q
  obtain ⟨k, rfl, hk⟩ := toA_mem.mp hq
  exact h.2.2 _ (by simpa using hs k w hk)
theorem LV.sub {ls : Array Slot} {nL : Nat} {vs vs' : List (Option Value)} (h : LV ls nL vs) (hs : ∀ (i : Nat) (v : Value), vs'[i]? = some (some v) → vs[i]? = some (some v)) : LV ls nL vs' :=
  LV.of h (fun i v hv => toA_mem.mpr ⟨i, by omega, hs i v hv⟩)
def o2 (o : Option Value) : Bool := match o with
  | some v => v.category == 2
  | none => false
/-- a word is stored at place i -/
def lset : List (Option Value) → Nat → Value → List (Option Value)
  | [], _, _ => []
  | _ :: t, 0, v => some v :: t
  | o :: t, 1, v => (if o2 o then none else o) :: lset t 0 v
  | o :: t, n + 2, v => o :: lset t (n + 1) v
theorem lset_spec {vs : List (Option Value)} : ∀ {i : Nat} {v : Value} {j : Nat} {w : Value}, (lset vs i v)[j]? = some (some w) → (j = i ∧ w = v) ∨ (j ≠ i ∧ vs[j]? = some (some w) ∧ ¬ (j + 1 = i ∧ w.category = 2)) := by
  induction vs with
  | nil => intro i v j w h; simp [lset] at h
  | cons o t ih =>
    intro i v j w h
    match i with
    | 0 =>
      cases j with
      | zero => simp [lset] at h; exact Or.inl ⟨rfl, h.symm⟩
      | succ j => simp [lset] at h; exact Or.inr ⟨by omega, by simpa using h, by omega⟩
    | 1 =>
      cases j with
      | zero =>
        rw [lset] at h
        simp only [List.getElem?_cons_zero, Option.some.injEq] at h
        right
        refine ⟨by omega, ?_, ?_⟩
        · by_cases ho : o2 o = true
          · rw [if_pos ho] at h; cases h
          · rw [if_neg ho] at h; simp [h]
        · rintro ⟨-, hc⟩
          by_cases ho : o2 o = true
          · rw [if_pos ho] at h; cases h
          · rw [if_neg ho] at h; subst h; apply ho; simp [o2, hc]
      | succ j =>
        rw [lset] at h
        simp only [List.getElem?_cons_succ] at h
        rcases ih h with ⟨rfl, e⟩ | ⟨a, b, c⟩
        · exact Or.inl ⟨rfl, e⟩
        · exact Or.inr ⟨by omega, by simpa using b, by omega⟩
    | n + 2 =>
      cases j with
      | zero => rw [lset] at h; simp only [List.getElem?_cons_zero] at h; exact Or.inr ⟨by omega, by simpa using h, by omega⟩
      | succ j =>
        rw [lset] at h
        simp only [List.getElem?_cons_succ] at h
        rcases ih h with ⟨rfl, e⟩ | ⟨a, b, c⟩
        · exact Or.inl ⟨rfl, e⟩
        · exact Or.inr ⟨by omega, by simpa using b, fun hh => c ⟨by omega, hh.2⟩⟩
/-- the places that a mask leaves -/
def lmask : List Bool → List (Option Value) → List (Option Value)
  | true :: ms, o :: t => o :: lmask ms t
  | false :: ms, _ :: t => none :: lmask ms t
  | _, _ => []
theorem lmask_spec : ∀ {ms : List Bool} {vs : List (Option Value)} {j : Nat} {w : Value}, (lmask ms vs)[j]? = some (some w) → vs[j]? = some (some w) := by
  intro ms
  induction ms with
  | nil => intro vs j w h; simp [lmask] at h
  | cons b ms ih =>
    intro vs j w h
    cases vs with
    | nil => cases b <;> simp [lmask] at h
    | cons o t =>
      cases b <;> cases j <;> simp [lmask] at h ⊢
      · exact ih h
      · exact h
      · exact ih h
def expd : List Value → List (Option Value)
  | [] => []
  | v :: t => if v.category = 2 then some v :: none :: expd t else some v :: expd t
theorem expd_args {vs : List Value} : ∀ {i k : Nat} {w : Value}, (expd vs)[k]? = some (some w) → (i + k, w) ∈ lv_args i vs := by
  induction vs with
  | nil => intro i k w h; simp [expd] at h
  | cons v t ih =>
    intro i k w h
    by_cases hc : v.category = 2
    · rw [expd, if_pos hc] at h
      rw [lv_args, if_pos hc]
      match k with
      | 0 => simp at h; subst h; simp
      | 1 => simp at h
      | k + 2 => exact List.mem_cons_of_mem _ (by have := @ih (i + 2) k w (by simpa using h); rwa [show i + (k + 2) = i + 2 + k by omega])
    · rw [expd, if_neg hc] at h
      rw [lv_args, if_neg hc]
      match k with
      | 0 => simp at h; subst h; simp
      | k + 1 => exact List.mem_cons_of_mem _ (by have := @ih (i + 1) k w (by simpa using h); rwa [show i + (k + 1) = i + 1 + k by omega])
def entv (n : Nat) (av : List Value) : List (Option Value) := expd av ++ List.replicate (n - (expd av).length) none
theorem entv_LV {ls : Array Slot} {n : Nat} {av : List Value} (h : lv_has ls n (lv_args 0 av)) : LV ls n (entv n av) := by
  refine LV.of h fun i v hv => ?_
  unfold entv at hv
  by_cases hi : i < (expd av).length
  · rw [List.getElem?_append_left hi] at hv
    have := expd_args (i := 0) hv
    simpa using this
  · rw [List.getElem?_append_right (by omega), List.getElem?_replicate] at hv
    split at hv <;> simp at hv
