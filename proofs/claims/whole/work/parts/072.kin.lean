/-! steps along a relation of persons, the fewest of them -/
def rc (R : Nat → Nat → Prop) : Nat → Nat → Nat → Prop
  | 0, p, q => p = q
  | n + 1, p, q => ∃ f, f < 20 ∧ R p f ∧ rc R n f q
theorem rc_tail {R : Nat → Nat → Prop} : ∀ {n p q : Nat}, rc R (n + 1) p q ↔ ∃ f, (n = 0 ∨ f < 20) ∧ rc R n p f ∧ R f q ∧ q < 20 := by
  intro n
  induction n with
  | zero =>
    intro p q
    constructor
    · rintro ⟨f, h1, h2, h3⟩
      have : f = q := h3
      subst this
      exact ⟨p, Or.inl rfl, rfl, h2, h1⟩
    · rintro ⟨f, -, h1, h2, h3⟩
      have : p = f := h1
      subst this
      exact ⟨q, h3, h2, rfl⟩
  | succ n ih =>
    intro p q
    constructor
    · rintro ⟨f, h1, h2, h3⟩
      obtain ⟨g, g0, g1, g2, g3⟩ := ih.mp h3
      refine ⟨g, Or.inr ?_, ⟨f, h1, h2, g1⟩, g2, g3⟩
      rcases g0 with e | e
      · subst e; have : f = g := g1; omega
      · exact e
    · rintro ⟨g, g0, ⟨f, h1, h2, h3⟩, g2, g3⟩
      exact ⟨f, h1, h2, ih.mpr ⟨g, by omega, h3, g2, g3⟩⟩
theorem rc_flip {R : Nat → Nat → Prop} : ∀ {n p q : Nat}, p < 20 → q < 20 → rc R n p q → rc (fun a b => R b a) n q p := by
  intro n
  induction n with
  | zero => intro p q _ _ h; exact Eq.symm h
  | succ n ih =>
    intro p q hp hq h
    obtain ⟨f, h0, h1, h2, -⟩ := rc_tail.mp h
    have hf : f < 20 := by
      rcases h0 with e | e
      · subst e; have : p = f := h1; omega
      · exact e
    exact ⟨f, hf, h2, ih hp hf h1⟩
theorem dR_ex (R : Nat → Nat → Prop) (p q : Nat) : ∃ n, (n < 20 ∧ rc R n p q ∧ ∀ m, m < n → ¬ rc R m p q) ∨ (n = 99 ∧ ∀ m, m < 20 → ¬ rc R m p q) := by
  by_cases hl : ∃ m, m < 20 ∧ rc R m p q
  · obtain ⟨n, h1, h2, h3⟩ := @fb_first (fun n => rc R n p q) (fun _ => Classical.propDecidable _) 20 hl
    exact ⟨n, Or.inl ⟨h1, h2, h3⟩⟩
  · exact ⟨99, Or.inr ⟨rfl, fun m hm h => hl ⟨m, hm, h⟩⟩⟩
noncomputable def dR (R : Nat → Nat → Prop) (p q : Nat) : Nat := Classical.choose (dR_ex R p q)
theorem dR_spec (R : Nat → Nat → Prop) (p q : Nat) : (dR R p q < 20 ∧ rc R (dR R p q) p q ∧ ∀ m, m < dR R p q → ¬ rc R m p q) ∨ (dR R p q = 99 ∧ ∀ m, m < 20 → ¬ rc R m p q) := Classical.choose_spec (dR_ex R p q)
theorem dR_of {R : Nat → Nat → Prop} {p q n : Nat} (hn : n < 20) (h : rc R n p q) (hm : ∀ m, m < n → ¬ rc R m p q) : dR R p q = n := by
  rcases dR_spec R p q with ⟨a, b, c⟩ | ⟨a, b⟩
  · by_cases h1 : dR R p q < n
    · exact absurd b (hm _ h1)
    · by_cases h2 : n < dR R p q
      · exact absurd h (c n h2)
      · omega
  · exact absurd h (b n hn)
theorem dR_no {R : Nat → Nat → Prop} {p q : Nat} (h : ∀ m, m < 20 → ¬ rc R m p q) : dR R p q = 99 := by
  rcases dR_spec R p q with ⟨a, b, c⟩ | ⟨a, b⟩
  · exact absurd b (h _ a)
  · exact a
theorem dR_flip {R : Nat → Nat → Prop} {p q : Nat} (hp : p < 20) (hq : q < 20) : dR (fun a b => R b a) q p = dR R p q := by
  rcases dR_spec R p q with ⟨a, b, c⟩ | ⟨a, b⟩
  · exact dR_of a (rc_flip hp hq b) (fun m hm h => c m hm (rc_flip (R := fun a b => R b a) hq hp h))
  · rw [a]; exact dR_no (fun m hm h => b m hm (rc_flip (R := fun a b => R b a) hq hp h))
/-- where each step goes to an earlier born one, ways are short -/
theorem rc_len {R : Nat → Nat → Prop} {g : Nat → Int} (hR : ∀ a b, a < 20 → b < 20 → R a b → g b < g a) : ∀ {n p q : Nat}, p < 20 → rc R n p q → n < 20 ∧ q < 20 := by
  have key : ∀ (n p q : Nat), p < 20 → rc R n p q → ∃ f : Nat → Nat, f 0 = p ∧ f n = q ∧ (∀ i, i ≤ n → f i < 20) ∧ ∀ i j, i < j → j ≤ n → g (f j) < g (f i) := by
    intro n
    induction n with
    | zero => intro p q hp h; exact ⟨fun _ => p, rfl, h, fun _ _ => hp, fun i j h1 h2 => absurd h1 (by omega)⟩
    | succ n ih =>
      rintro p q hp ⟨x, h1, h2, h3⟩
      obtain ⟨f, a, b, c, e⟩ := ih x q h1 h3
      refine ⟨fun i => if i = 0 then p else f (i - 1), by simp, by simpa using b, fun i hi => ?_, fun i j hij hj => ?_⟩
      · show (if i = 0 then p else f (i - 1)) < 20
        split
        · exact hp
        · exact c _ (by omega)
      · show g (if j = 0 then p else f (j - 1)) < g (if i = 0 then p else f (i - 1))
        rw [if_neg (by omega)]
        have hpx : g x < g p := hR p x hp h1 h2
        by_cases hi : i = 0
        · rw [if_pos hi]
          by_cases hj1 : j = 1
          · subst hj1; show g (f 0) < g p; rw [a]; exact hpx
          · have := e 0 (j - 1) (by omega) (by omega)
            rw [a] at this
            omega
        · rw [if_neg hi]; exact e (i - 1) (j - 1) (by omega) (by omega)
  intro n p q hp h
  obtain ⟨f, a, b, c, e⟩ := key n p q hp h
  refine ⟨?_, by rw [← b]; exact c n (Nat.le_refl _)⟩
  have := fb_holes 20 (n + 1) f (fun i hi => c i (by omega)) (fun i j h1 h2 q => by have := e i j h1 (by omega); rw [q] at this; omega)
  omega
/-- a fixed point of relaxation that is sound is the fewest -/
theorem dR_fix {R : Nat → Nat → Prop} {g : Nat → Int} (hR : ∀ a b, a < 20 → b < 20 → R a b → g b < g a) {p : Nat} (hp : p < 20) {U : Nat → Nat} (h0 : U p = 0) (hs : ∀ q, q < 20 → U q = 99 ∨ (U q < 20 ∧ rc R (U q) p q)) (hf : ∀ a b, a < 20 → b < 20 → U a < 99 → R a b → U b ≤ U a + 1) : ∀ q, q < 20 → U q = dR R p q := by
  have key : ∀ n q, rc R n p q → q < 20 → n < 20 → U q ≤ n := by
    intro n
    induction n with
    | zero => intro q h _ _; have : p = q := h; subst this; omega
    | succ n ih =>
      intro q h hq hn
      obtain ⟨f, h1, h2, h3, h4⟩ := rc_tail.mp h
      have hf20 : f < 20 := by
        rcases h1 with e | e
        · subst e; have : p = f := h2; omega
        · exact e
      have := ih f h2 hf20 (by omega)
      have := hf f q hf20 hq (by omega) h3
      omega
  intro q hq
  rcases hs q hq with e | ⟨e1, e2⟩
  · rw [e]
    refine (dR_no fun m hm h => ?_).symm
    have := key m q h hq hm
    omega
  · refine (dR_of e1 e2 fun m hm h => ?_).symm
    have := key m q h hq (by omega)
    omega
/-! a queue of persons, from p on: U the fewest steps so far (99: not reached), qu the queue, n its length, at the place that is looked at -/
def BQ (R : Nat → Nat → Prop) (p : Nat) (U qu : Nat → Nat) (n at' : Nat) : Prop :=
  U p = 0 ∧ n ≤ 20 ∧ (∀ i, i < n → qu i < 20) ∧ (∀ i j, i < j → j < n → qu i ≠ qu j) ∧ (∀ x, x < 20 → (U x ≠ 99 ↔ ∃ i, i < n ∧ qu i = x)) ∧ (∀ x, x < 20 → U x = 99 ∨ (U x < 20 ∧ rc R (U x) p x)) ∧
  (∀ i j, i < j → j < n → U (qu i) ≤ U (qu j)) ∧ (∀ i, i < n → at' < n → U (qu i) ≤ U (qu at') + 1) ∧ (∀ i f, i < at' → i < n → f < 20 → R (qu i) f → U f ≤ U (qu i) + 1)
theorem BQ.full {R : Nat → Nat → Prop} {p : Nat} {U qu : Nat → Nat} {at' : Nat} (h : BQ R p U qu 20 at') : ∀ x, x < 20 → U x ≠ 99 := by
  obtain ⟨h1, h2, h3, h4, h5, h6, h7, h8, h9⟩ := h
  intro x hx
  obtain ⟨i, hi, e⟩ := fb_onto h3 h4 hx
  exact (h5 x hx).mpr ⟨i, hi, e⟩
theorem BQ.push {R : Nat → Nat → Prop} {p : Nat} {U qu : Nat → Nat} {n at' f : Nat} (hlen : ∀ {n p q : Nat}, p < 20 → rc R n p q → n < 20 ∧ q < 20) (hp : p < 20) (h : BQ R p U qu n at') (hat : at' < n) (hf : f < 20) (hr : R (qu at') f) (hn : U f = 99) (hn20 : n < 20) :
    BQ R p (fun x => if x = f then U (qu at') + 1 else U x) (fun i => if i = n then f else qu i) (n + 1) at' := by
  obtain ⟨h1, h2, h3, h4, h5, h6, h7, h8, h9⟩ := h
  have hq := h3 at' hat
  have hU : U (qu at') ≠ 99 := (h5 _ hq).mpr ⟨at', hat, rfl⟩
  have hrq : U (qu at') < 20 ∧ rc R (U (qu at')) p (qu at') := (h6 _ hq).resolve_left hU
  have hrf : rc R (U (qu at') + 1) p f := rc_tail.mpr ⟨qu at', Or.inr hq, hrq.2, hr, hf⟩
  have hl := (hlen hp hrf).1
  have hnf : ∀ i, i < n → qu i ≠ f := fun i hi e => (h5 f hf).mpr ⟨i, hi, e⟩ hn
  have hpf : p ≠ f := fun e => by rw [← e, h1] at hn; omega
  refine ⟨by show (if p = f then _ else U p) = 0; rw [if_neg hpf]; exact h1, by omega, fun i hi => ?_, fun i j hij hj => ?_, fun x hx => ?_, fun x hx => ?_, fun i j hij hj => ?_, fun i hi ha => ?_, fun i x hi hin hx hr' => ?_⟩
  · show (if i = n then f else qu i) < 20
    split
    · exact hf
    · exact h3 i (by omega)
  · show (if i = n then f else qu i) ≠ (if j = n then f else qu j)
    rw [if_neg (by omega)]
    split
    · exact hnf i (by omega)
    · exact h4 i j hij (by omega)
  · show (if x = f then U (qu at') + 1 else U x) ≠ 99 ↔ ∃ i, i < n + 1 ∧ (if i = n then f else qu i) = x
    by_cases e : x = f
    · rw [if_pos e]
      exact ⟨fun _ => ⟨n, by omega, by rw [if_pos rfl]; exact e.symm⟩, fun _ => by omega⟩
    · rw [if_neg e, h5 x hx]
      constructor
      · rintro ⟨i, hi, q⟩; exact ⟨i, by omega, by rw [if_neg (by omega)]; exact q⟩
      · rintro ⟨i, hi, q⟩
        by_cases en : i = n
        · rw [if_pos en] at q; exact absurd q.symm e
        · rw [if_neg en] at q; exact ⟨i, by omega, q⟩
  · show (if x = f then U (qu at') + 1 else U x) = 99 ∨ ((if x = f then U (qu at') + 1 else U x) < 20 ∧ rc R (if x = f then U (qu at') + 1 else U x) p x)
    by_cases e : x = f
    · rw [if_pos e, e]; exact Or.inr ⟨hl, hrf⟩
    · rw [if_neg e]; exact h6 x hx
  · show (if (if i = n then f else qu i) = f then U (qu at') + 1 else U (if i = n then f else qu i)) ≤ (if (if j = n then f else qu j) = f then U (qu at') + 1 else U (if j = n then f else qu j))
    rw [if_neg (show ¬ i = n by omega), if_neg (hnf i (by omega))]
    by_cases e : j = n
    · rw [if_pos e, if_pos rfl]; exact h8 i (by omega) hat
    · rw [if_neg e, if_neg (hnf j (by omega))]; exact h7 i j hij (by omega)
  · show (if (if i = n then f else qu i) = f then U (qu at') + 1 else U (if i = n then f else qu i)) ≤ (if (if at' = n then f else qu at') = f then U (qu at') + 1 else U (if at' = n then f else qu at')) + 1
    rw [if_neg (show ¬ at' = n by omega), if_neg (hnf at' hat)]
    by_cases e : i = n
    · rw [if_pos e, if_pos rfl]; exact Nat.le_refl _
    · rw [if_neg e, if_neg (hnf i (by omega))]; exact h8 i (by omega) hat
  · have hr' : R (if i = n then f else qu i) x := hr'
    show (if x = f then U (qu at') + 1 else U x) ≤ (if (if i = n then f else qu i) = f then U (qu at') + 1 else U (if i = n then f else qu i)) + 1
    rw [if_neg (show ¬ i = n by omega)] at hr' ⊢
    rw [if_neg (hnf i (by omega))]
    have h10 := h9 i x hi (by omega) hx hr'
    by_cases e : x = f
    · rw [if_pos e]
      subst e
      rw [hn] at h10
      have := h6 _ (h3 i (by omega))
      have := (h5 _ (h3 i (by omega))).mpr ⟨i, by omega, rfl⟩
      omega
    · rw [if_neg e]; exact h10
theorem BQ.next {R : Nat → Nat → Prop} {p : Nat} {U qu : Nat → Nat} {n at' : Nat} (h : BQ R p U qu n at') (hat : at' < n) (hd : ∀ f, f < 20 → R (qu at') f → U f ≤ U (qu at') + 1) : BQ R p U qu n (at' + 1) := by
  obtain ⟨h1, h2, h3, h4, h5, h6, h7, h8, h9⟩ := h
  refine ⟨h1, h2, h3, h4, h5, h6, h7, fun i hi ha => ?_, fun i f hi hin hf hr => ?_⟩
  · have := h8 i hi hat
    have := h7 at' (at' + 1) (by omega) ha
    omega
  · by_cases e : i = at'
    · subst e; exact hd f hf hr
    · exact h9 i f (by omega) hin hf hr
theorem BQ.start {R : Nat → Nat → Prop} {p : Nat} (hp : p < 20) {qu : Nat → Nat} (hq : qu 0 = p) : BQ R p (fun x => if x = p then 0 else 99) qu 1 0 := by
  refine ⟨by simp, by omega, fun i hi => by rw [show i = 0 by omega, hq]; exact hp, fun i j h1 h2 => absurd h1 (by omega), fun x hx => ?_, fun x hx => ?_, fun i j h1 h2 => absurd h1 (by omega), fun i hi _ => by rw [show i = 0 by omega]; omega, fun i f hi => absurd hi (by omega)⟩
  · constructor
    · intro h1
      by_cases e : x = p
      · exact ⟨0, by omega, by rw [hq, e]⟩
      · exact absurd (by simp [e]) h1
    · rintro ⟨i, hi, e⟩
      rw [show i = 0 by omega, hq] at e
      simp [e.symm]
  · by_cases e : x = p
    · right
      subst e
      exact ⟨by simp, by simp [rc]⟩
    · left; simp [e]
theorem BQ.done {R : Nat → Nat → Prop} {g : Nat → Int} (hR : ∀ a b, a < 20 → b < 20 → R a b → g b < g a) {p : Nat} (hp : p < 20) {U qu : Nat → Nat} {n at' : Nat} (h : BQ R p U qu n at') (hat : n ≤ at') : ∀ q, q < 20 → U q = dR R p q := by
  obtain ⟨h1, h2, h3, h4, h5, h6, h7, h8, h9⟩ := h
  refine dR_fix hR hp h1 h6 (fun a b ha hb hU hr => ?_)
  obtain ⟨i, hi, e⟩ := (h5 a ha).mp (by omega)
  rw [← e] at hr ⊢
  exact h9 i b (by omega) hi hb hr
