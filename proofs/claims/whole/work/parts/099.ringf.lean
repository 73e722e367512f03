/-! the reference goes through all rows -/
def tM (n c k : Nat) : Nat := c / 2 ^ (3 * (n - 1 - k)) % 8
/-- a row's number among those of its length -/
def cdM (a b c d : Nat) : Nat := if c = 0 then 8 * (a - 1) + (b - 1) else if d = 0 then 64 * (a - 1) + 8 * (b - 1) + (c - 1) else 512 * (a - 1) + 64 * (b - 1) + 8 * (c - 1) + (d - 1)
def PM (n c : Nat) : Nat → Nat → Nat → Nat → Prop := fun a b c' d => n4 c' d < n ∨ (n4 c' d = n ∧ cdM a b c' d < c)
def cOf (n c : Nat) : Nat := if n = 2 then 0 else tM n c 2 + 1
def dOf (n c : Nat) : Nat := if n = 4 then tM n c 3 + 1 else 0
theorem tM_lt (n c k : Nat) : tM n c k < 8 := Nat.mod_lt _ (by omega)
theorem n4_of {n c : Nat} (h : n = 2 ∨ n = 3 ∨ n = 4) : n4 (cOf n c) (dOf n c) = n := by
  rcases h with rfl | rfl | rfl
  · rfl
  · unfold n4 cOf dOf
    rw [if_neg (by simp), if_pos (by simp)]
  · unfold n4 cOf dOf
    rw [if_neg (by simp), if_neg (by simp)]
theorem code_of {n c : Nat} (h : n = 2 ∨ n = 3 ∨ n = 4) (hc : c < 2 ^ (3 * n)) : cdM (tM n c 0 + 1) (tM n c 1 + 1) (cOf n c) (dOf n c) = c := by
  rcases h with rfl | rfl | rfl
  · unfold cdM cOf tM
    simp at hc ⊢
    omega
  · unfold cdM cOf dOf tM
    simp at hc ⊢
    omega
  · unfold cdM cOf dOf tM
    simp at hc ⊢
    omega
theorem e4_code {a b c d a' b' c' d' : Nat} (h : n4 c d = n4 c' d') (hz : c = 0 → d = 0) (hz' : c' = 0 → d' = 0) (q1 : 1 ≤ a ∧ a ≤ 8 ∧ 1 ≤ b ∧ b ≤ 8 ∧ c ≤ 8 ∧ d ≤ 8) (q2 : 1 ≤ a' ∧ a' ≤ 8 ∧ 1 ≤ b' ∧ b' ≤ 8 ∧ c' ≤ 8 ∧ d' ≤ 8) : (cdM a b c d < cdM a' b' c' d' ↔ e4 a b c d < e4 a' b' c' d') ∧ (cdM a b c d = cdM a' b' c' d' → a = a' ∧ b = b' ∧ c = c' ∧ d = d') := by
  unfold n4 at h
  unfold cdM e4
  by_cases c0 : c = 0
  · have d0 := hz c0
    rw [if_pos c0] at h ⊢
    have c0' : c' = 0 := by
      by_cases e : c' = 0
      · exact e
      · rw [if_neg e] at h; split at h <;> omega
    have d0' := hz' c0'
    rw [if_pos c0']
    omega
  · rw [if_neg c0] at h ⊢
    have c0' : c' ≠ 0 := fun e => by rw [if_pos e] at h; split at h <;> omega
    rw [if_neg c0'] at h ⊢
    by_cases d0 : d = 0
    · rw [if_pos d0] at h ⊢
      have d0' : d' = 0 := by
        by_cases e : d' = 0
        · exact e
        · rw [if_neg e] at h; omega
      rw [if_pos d0']
      omega
    · rw [if_neg d0] at h ⊢
      have d0' : d' ≠ 0 := fun e => by rw [if_pos e] at h; omega
      rw [if_neg d0']
      omega
theorem r4_b {V : mI} (h8 : cH V ≤ 8) {a b c d : Nat} (h : r4 V a b c d) : 1 ≤ a ∧ a ≤ 8 ∧ 1 ≤ b ∧ b ≤ 8 ∧ c ≤ 8 ∧ d ≤ 8 := by
  obtain ⟨h1, h2, h3, h4, h5, -⟩ := h
  omega
/-- a row of the reference is a ring just where r4 says so -/
theorem ok_r4 {V : mI} {n c : Nat} (h : n = 2 ∨ n = 3 ∨ n = 4) : (okM V n (tM n c) ∧ ∀ k, k < n → tM n c k < cH V) ↔ r4 V (tM n c 0 + 1) (tM n c 1 + 1) (cOf n c) (dOf n c) := by
  rcases h with rfl | rfl | rfl
  · show (okM V 2 (tM 2 c) ∧ _) ↔ r4 V (tM 2 c 0 + 1) (tM 2 c 1 + 1) 0 0
    generalize tM 2 c = t
    constructor
    · rintro ⟨ho, hc⟩
      obtain ⟨a1, a2, a3⟩ := ho 0 (by omega)
      obtain ⟨b1, b2, b3⟩ := ho 1 (by omega)
      have b1 := b1 0 (by omega)
      have c0 := hc 0 (by omega)
      have c1 := hc 1 (by omega)
      exact ⟨by omega, by omega, by omega, by omega, by omega, fun _ => rfl, fun e => absurd rfl e, fun e => absurd rfl e, a3, fun _ => b3, fun e => absurd rfl e⟩
    · rintro ⟨h1, h2, h3, h4, h5, h6, h7, h8, h9, h10, h11⟩
      refine ⟨fun k hk => ?_, fun k hk => ?_⟩
      · have : k = 0 ∨ k = 1 := by omega
        rcases this with rfl | rfl
        · exact ⟨fun i hi => absurd hi (by omega), Nat.le_refl _, h9⟩
        · exact ⟨fun i hi => by rw [show i = 0 by omega]; omega, by omega, h10 rfl⟩
      · have : k = 0 ∨ k = 1 := by omega
        rcases this with rfl | rfl <;> omega
  · show (okM V 3 (tM 3 c) ∧ _) ↔ r4 V (tM 3 c 0 + 1) (tM 3 c 1 + 1) (tM 3 c 2 + 1) 0
    generalize tM 3 c = t
    constructor
    · rintro ⟨ho, hc⟩
      obtain ⟨a1, a2, a3⟩ := ho 0 (by omega)
      obtain ⟨b1, b2, b3⟩ := ho 1 (by omega)
      obtain ⟨c1, c2, c3⟩ := ho 2 (by omega)
      have b1 := b1 0 (by omega)
      have c10 := c1 0 (by omega)
      have c11 := c1 1 (by omega)
      have d0 := hc 0 (by omega)
      have d1 := hc 1 (by omega)
      have d2 := hc 2 (by omega)
      exact ⟨by omega, by omega, by omega, by omega, by omega, fun _ => rfl, fun _ => by omega, fun e => absurd rfl e, a3, fun e => absurd e (by omega), fun _ => ⟨b3, fun _ => c3, fun e => absurd rfl e⟩⟩
    · rintro ⟨h1, h2, h3, h4, h5, h6, h7, h8, h9, h10, h11⟩
      obtain ⟨k1, k2, k3⟩ := h11 (by omega)
      have h7 := h7 (by omega)
      refine ⟨fun k hk => ?_, fun k hk => ?_⟩
      · have : k = 0 ∨ k = 1 ∨ k = 2 := by omega
        rcases this with rfl | rfl | rfl
        · exact ⟨fun i hi => absurd hi (by omega), Nat.le_refl _, h9⟩
        · exact ⟨fun i hi => by rw [show i = 0 by omega]; omega, by omega, k1⟩
        · refine ⟨fun i hi => ?_, by omega, k2 rfl⟩
          have : i = 0 ∨ i = 1 := by omega
          rcases this with rfl | rfl <;> omega
      · have : k = 0 ∨ k = 1 ∨ k = 2 := by omega
        rcases this with rfl | rfl | rfl <;> omega
  · show (okM V 4 (tM 4 c) ∧ _) ↔ r4 V (tM 4 c 0 + 1) (tM 4 c 1 + 1) (tM 4 c 2 + 1) (tM 4 c 3 + 1)
    generalize tM 4 c = t
    constructor
    · rintro ⟨ho, hc⟩
      obtain ⟨a1, a2, a3⟩ := ho 0 (by omega)
      obtain ⟨b1, b2, b3⟩ := ho 1 (by omega)
      obtain ⟨c1, c2, c3⟩ := ho 2 (by omega)
      obtain ⟨e1, e2, e3⟩ := ho 3 (by omega)
      have b1 := b1 0 (by omega)
      have c10 := c1 0 (by omega)
      have c11 := c1 1 (by omega)
      have e10 := e1 0 (by omega)
      have e11 := e1 1 (by omega)
      have e12 := e1 2 (by omega)
      have d0 := hc 0 (by omega)
      have d1 := hc 1 (by omega)
      have d2 := hc 2 (by omega)
      have d3 := hc 3 (by omega)
      exact ⟨by omega, by omega, by omega, by omega, by omega, fun e => by omega, fun _ => by omega, fun _ => by omega, a3, fun e => absurd e (by omega), fun _ => ⟨b3, fun e => absurd e (by omega), fun _ => ⟨c3, e3⟩⟩⟩
    · rintro ⟨h1, h2, h3, h4, h5, h6, h7, h8, h9, h10, h11⟩
      obtain ⟨k1, k2, k3⟩ := h11 (by omega)
      have h7 := h7 (by omega)
      have h8 := h8 (by omega)
      have k3 := k3 (by omega)
      refine ⟨fun k hk => ?_, fun k hk => ?_⟩
      · have : k = 0 ∨ k = 1 ∨ k = 2 ∨ k = 3 := by omega
        rcases this with rfl | rfl | rfl | rfl
        · exact ⟨fun i hi => absurd hi (by omega), Nat.le_refl _, h9⟩
        · exact ⟨fun i hi => by rw [show i = 0 by omega]; omega, by omega, k1⟩
        · refine ⟨fun i hi => ?_, by omega, k3.1⟩
          have : i = 0 ∨ i = 1 := by omega
          rcases this with rfl | rfl <;> omega
        · refine ⟨fun i hi => ?_, by omega, k3.2⟩
          have : i = 0 ∨ i = 1 ∨ i = 2 := by omega
          rcases this with rfl | rfl | rfl <;> omega
      · have : k = 0 ∨ k = 1 ∨ k = 2 ∨ k = 3 := by omega
        rcases this with rfl | rfl | rfl | rfl <;> omega
theorem sm_s4 {V : mI} {n c : Nat} (h : n = 2 ∨ n = 3 ∨ n = 4) : smM V n (tM n c) n = s4 V (tM n c 0 + 1) (tM n c 1 + 1) (cOf n c) (dOf n c) := by
  rcases h with rfl | rfl | rfl
  · show smM V 2 (tM 2 c) 2 = s4 V (tM 2 c 0 + 1) (tM 2 c 1 + 1) 0 0
    simp only [smM, s4, gg]
    simp
  · show smM V 3 (tM 3 c) 3 = s4 V (tM 3 c 0 + 1) (tM 3 c 1 + 1) (tM 3 c 2 + 1) 0
    simp only [smM, s4, gg]
    simp
    omega
  · show smM V 4 (tM 4 c) 4 = s4 V (tM 4 c 0 + 1) (tM 4 c 1 + 1) (tM 4 c 2 + 1) (tM 4 c 3 + 1)
    simp only [smM, s4, gg]
    simp
    omega
theorem row_M {n c k : Nat} (h : n = 2 ∨ n = 3 ∨ n = 4) (hk : k < n) : tM n c k = rwK (tM n c 0 + 1) (tM n c 1 + 1) (cOf n c) (dOf n c) k := by
  rcases h with rfl | rfl | rfl
  · have : k = 0 ∨ k = 1 := by omega
    rcases this with rfl | rfl <;> rfl
  · have : k = 0 ∨ k = 1 ∨ k = 2 := by omega
    rcases this with rfl | rfl | rfl <;> rfl
  · have : k = 0 ∨ k = 1 ∨ k = 2 ∨ k = 3 := by omega
    rcases this with rfl | rfl | rfl | rfl <;> rfl
section RF
variable {E : Envt} {d : Nat} {Q : Pst} {h : mS} {I V : mI} {L : mL}
def RPM (I : mI) (T : T6) : Prop := I 83 78 = nI T.2.2.2.2.1 ∧ I 83 79 = (if T.2.2.2.2.1 = 0 then (-1) else nI T.2.2.2.2.2) ∧ (T.2.2.2.2.1 ≠ 0 → ∀ k, k < T.2.2.2.2.1 → I 144 k = nI (rwK T.1 T.2.1 T.2.2.1 T.2.2.2.1 k))
def BOM (V : mI) (n c : Nat) (T : T6) : Prop := BO V (PM n c) T.1 T.2.1 T.2.2.1 T.2.2.2.1 T.2.2.2.2.1 T.2.2.2.2.2
/-- what findRing leaves -/
def SRM (I V : mI) : Prop := RGB V ∧ TBM I (cqA V) ∧ I 83 78 = nI (rgN V) ∧ (rgN V ≠ 0 → I 83 79 = nI (rgS V)) ∧ ∀ k, k < rgN V → I 144 k = nI (rgK V k)
theorem shl3 : ∀ n, n < 5 → (1 : Int32) <<< ((3 * nI n) &&& 31) = nI (2 ^ (3 * n)) := by decide +kernel
theorem m_findRing (hs : SL h) (w : Wf V) (hV : MV I V) (hQ : ∀ I', FrM I I' → SRM I' V → Q none h I' L) : (CT E mX12_findRing (d + 7) 0 0 [.ref (eB E + 83)] h I L Q) := by
  have h8 := w.H.n8
  refine w_X12_findRing hs ?_
  refine m_findCouples hs w hV (fun Ib fb hT => qv_i ?_)
  have hH : Ib 90 0 = nI (cH V) := by rw [fb 90 (by decide) (by decide) (by decide) (by decide), hV 90 (by decide) (by decide)]; exact w.H.n
  -- only 83, 144, 145 change from here on
  have tb : ∀ I2 : mI, (∀ a, a ≠ 83 → a ≠ 144 → a ≠ 145 → I2 a = Ib a) → TBM I2 (cqA V) := fun I2 f => by
    unfold TBM
    rw [f 141 (by decide) (by decide) (by decide), f 142 (by decide) (by decide) (by decide), f 143 (by decide) (by decide) (by decide)]
    exact hT
  have row : ∀ n, (n = 2 ∨ n = 3 ∨ n = 4) → (∀ I2 T2, (∀ a, a ≠ 83 → a ≠ 144 → a ≠ 145 → I2 a = Ib a) → RPM I2 T2 → BOM V n (2 ^ (3 * n)) T2 → (J E mX12_findRing (d + 7) Q 0 0 16 [some (.ref (eB E + 83)), some (.int (nI (n + 1))), none, none, none, none] [] h I2 L)) →
      ∀ c, c ≤ 2 ^ (3 * n) → ∀ I2 T2, (∀ a, a ≠ 83 → a ≠ 144 → a ≠ 145 → I2 a = Ib a) → RPM I2 T2 → BOM V n c T2 → (J E mX12_findRing (d + 7) Q 0 0 23 [some (.ref (eB E + 83)), some (.int (nI n)), some (.int (nI c)), none, none, none] [] h I2 L) := by
    intro n hn hK
    have hn4 : 2 ≤ n ∧ n ≤ 4 := by omega
    have hp : 2 ^ (3 * n) ≤ 4096 := by rcases hn with rfl | rfl | rfl <;> decide
    refine dn (2 ^ (3 * n)) ?_ ?_
    · intro I2 T2 f2 r2 b2
      refine w_X12_findRing_23 hs _ _ (br_t (by rw [shl3 n (by omega)]; exact nI_le (Nat.le_refl _) (by omega)) ?_)
      rw [nI_1]
      exact hK I2 T2 f2 r2 b2
    · intro c hc ih I2 T2 f2 r2 b2
      refine w_X12_findRing_23 hs _ _ (br_f (by rw [shl3 n (by omega)]; exact nI_ge hc (by omega)) ?_)
      have hTb := BO_n w b2
      -- no ring here
      have none' : ¬ r4 V (tM n c 0 + 1) (tM n c 1 + 1) (cOf n c) (dOf n c) → BOM V n (c + 1) T2 := fun hno => by
        refine BO_cg b2 (fun a b c' d' hr => ?_)
        unfold PM
        constructor
        · rintro (q | ⟨q1, q2⟩)
          · exact Or.inl q
          · by_cases e : cdM a b c' d' < c
            · exact Or.inr ⟨q1, e⟩
            · exfalso
              have ec : cdM a b c' d' = c := by omega
              have hcode := code_of hn hc
              have := (e4_code (a := a) (b := b) (c := c') (d := d') (a' := tM n c 0 + 1) (b' := tM n c 1 + 1) (c' := cOf n c) (d' := dOf n c) (q1.trans (n4_of hn).symm) hr.2.2.2.2.2.1 (by
                unfold cOf dOf
                rcases hn with rfl | rfl | rfl <;> simp) (r4_b h8 hr) (by
                have := tM_lt n c 0
                have := tM_lt n c 1
                have := tM_lt n c 2
                have := tM_lt n c 3
                unfold cOf dOf
                refine ⟨by omega, by omega, by omega, by omega, ?_, ?_⟩ <;> split <;> omega)).2 (by rw [ec, hcode])
              obtain ⟨e1, e2, e3, e5⟩ := this
              rw [e1, e2, e3, e5] at hr
              exact hno hr
        · rintro (q | ⟨q1, q2⟩)
          · exact Or.inl q
          · exact Or.inr ⟨q1, by omega⟩
      have K37 : ∀ k, k ≤ n → ∀ (x3 : Int32) (I2 : mI), (∀ a, a ≠ 83 → a ≠ 144 → a ≠ 145 → I2 a = Ib a) → RPM I2 T2 → (∀ i, i < k → I2 145 i = nI (tM n c i)) → ((x3 = 0 ∧ ¬ ∀ i, i < k → tM n c i < cH V) ∨ (x3 = 1 ∧ ∀ i, i < k → tM n c i < cH V)) → (J E mX12_findRing (d + 7) Q 0 0 37 [some (.ref (eB E + 83)), some (.int (nI n)), some (.int (nI c)), some (.int x3), some (.int (nI k)), none] [] h I2 L) := by
        refine dn n ?_ ?_
        · intro x3 I2 f2 r2 t2 hx3
          refine w_X12_findRing_37 hs _ _ _ _ (br_t (nI_le (Nat.le_refl _) (by omega)) ?_)
          rw [nI_1 c]
          rcases hx3 with ⟨rfl, hno⟩ | ⟨rfl, hall⟩
          · refine br_t rfl (br_t ?_ (ih I2 T2 f2 r2 (none' fun hr => hno ((ok_r4 hn).mpr hr).2)))
            rw [r2.2.1]
            split
            · decide
            · rw [fa_le, nI_toInt (by omega)]; simp
          · refine br_f (by decide) ?_
            refine m_ringOf hs w (tb I2 f2) hn4.1 hn4.2 (fun k hk => ⟨t2 k hk, tM_lt n c k⟩) (qi_i ?_)
            rw [r2.2.1]
            by_cases co : okM V n (tM n c)
            · have hr := (ok_r4 hn).mp ⟨co, hall⟩
              have hsm := sm_s4 (V := V) (c := c) hn
              have sb := s4_b w hr
              have hnn := n4_of (c := c) hn
              rw [cif_t co, hsm]
              have same : ∀ a b c' d', r4 V a b c' d' → PM n (c + 1) a b c' d' → PM n c a b c' d' ∨ (a = tM n c 0 + 1 ∧ b = tM n c 1 + 1 ∧ c' = cOf n c ∧ d' = dOf n c) := by
                intro a b c' d' hr' hp'
                rcases hp' with q | ⟨q1, q2⟩
                · exact Or.inl (Or.inl q)
                · by_cases e : cdM a b c' d' < c
                  · exact Or.inl (Or.inr ⟨q1, e⟩)
                  · have ec : cdM a b c' d' = c := by omega
                    exact Or.inr ((e4_code (q1.trans hnn.symm) hr'.2.2.2.2.2.1 hr.2.2.2.2.2.1 (r4_b h8 hr') (r4_b h8 hr)).2 (by rw [ec, code_of hn hc]))
              have take : (T2.2.2.2.2.1 = 0 ∨ T2.2.2.2.2.2 < s4 V (tM n c 0 + 1) (tM n c 1 + 1) (cOf n c) (dOf n c)) → (J E mX12_findRing (d + 7) Q 0 0 133 [some (.ref (eB E + 83)), some (.int (nI n)), some (.int (nI c)), some (.int 1), some (.int (nI (s4 V (tM n c 0 + 1) (tM n c 1 + 1) (cOf n c) (dOf n c)))), some (.int 0)] [] h (uI (uI I2 83 79 (nI (s4 V (tM n c 0 + 1) (tM n c 1 + 1) (cOf n c) (dOf n c)))) 83 78 (nI n)) L) := by
                intro hbet
                have hb3 : BOM V n (c + 1) (tM n c 0 + 1, tM n c 1 + 1, cOf n c, dOf n c, n4 (cOf n c) (dOf n c), s4 V (tM n c 0 + 1) (tM n c 1 + 1) (cOf n c) (dOf n c)) := BO_new b2 hr (Or.inr ⟨hnn, by rw [code_of hn hc]; omega⟩) same (hbet.imp_right Or.inl)
                rw [hnn] at hb3
                generalize hJ : uI (uI I2 83 79 (nI (s4 V (tM n c 0 + 1) (tM n c 1 + 1) (cOf n c) (dOf n c)))) 83 78 (nI n) = I3
                have f3 : ∀ a, a ≠ 83 → I3 a = I2 a := fun a ha => by rw [← hJ, uI_ne ha, uI_ne ha]
                have K133 : ∀ k, k ≤ n → ∀ f : Nat → Int32, (∀ i, i < k → f i = nI (tM n c i)) → (J E mX12_findRing (d + 7) Q 0 0 133 [some (.ref (eB E + 83)), some (.int (nI n)), some (.int (nI c)), some (.int 1), some (.int (nI (s4 V (tM n c 0 + 1) (tM n c 1 + 1) (cOf n c) (dOf n c)))), some (.int (nI k))] [] h (sA I3 144 f) L) := by
                  refine dn n ?_ ?_
                  · intro f hf
                    refine w_X12_findRing_133 hs _ _ _ _ _ (br_t (nI_le (Nat.le_refl _) (by omega)) ?_)
                    rw [nI_1]
                    refine ih _ _ (fun a h1 h2 h3 => by rw [sA_ne h2, f3 a h1]; exact f2 a h1 h2 h3) ⟨?_, ?_, fun _ k hk => ?_⟩ hb3
                    · rw [sA_ne (by decide), ← hJ, uI_eq]
                    · rw [sA_ne (by decide), ← hJ, uI_nj (by decide), uI_eq]
                      exact (if_neg (show ¬ n = 0 by omega)).symm
                    · rw [sA_at, hf k hk]
                      exact congrArg nI (row_M hn hk)
                  · intro k hk ihk f hf
                    refine w_X12_findRing_133 hs _ _ _ _ _ (br_f (nI_ge hk (by omega)) ⟨vp_in_nI (by omega) (by decide), ?_⟩)
                    rw [nI_clamp (by omega), sA_ne (by decide), f3 145 (by decide), t2 k hk, uI_sA, nI_1]
                    refine ihk _ (fun i hi => ?_)
                    by_cases e : i = k
                    · rw [e, upd_same']
                    · rw [upd_ne' e]; exact hf i (by omega)
                have := K133 0 (by omega) (I3 144) (fun i hi => absurd hi (by omega))
                rw [sA_id] at this
                exact this
              by_cases c0 : T2.2.2.2.2.1 = 0
              · rw [if_pos c0]
                refine br_f (fun e => ?_) (take (Or.inl c0))
                rw [fa_le, nI_toInt (by omega)] at e
                simp at e
                omega
              · rw [if_neg c0, nI_leI (by omega) (by omega)]
                refine br_c (fun c1 => ih I2 T2 f2 r2 (BO_old (a1 := tM n c 0 + 1) (b1 := tM n c 1 + 1) (c1 := cOf n c) (d1 := dOf n c) b2 c0 (fun a b c' d' _ hp' => ?_) same ?_)) (fun c1 => take (Or.inr (by omega)))
                · rcases hp' with q | ⟨q1, q2⟩
                  · exact Or.inl q
                  · exact Or.inr ⟨q1, by omega⟩
                · by_cases ce : s4 V (tM n c 0 + 1) (tM n c 1 + 1) (cOf n c) (dOf n c) = T2.2.2.2.2.2
                  · refine Or.inr ⟨ce, ?_⟩
                    rcases b2 with ⟨g1, -⟩ | ⟨g1, g2, g3, -, -⟩
                    · exact absurd g1 c0
                    · rcases g2 with q | ⟨q1, q2⟩
                      · exact Or.inl (by omega)
                      · refine Or.inr ⟨by omega, ?_⟩
                        have := (e4_code (q1.trans hnn.symm) g1.2.2.2.2.2.1 hr.2.2.2.2.2.1 (r4_b h8 g1) (r4_b h8 hr)).1.mp (by rw [code_of hn hc]; exact q2)
                        omega
                  · exact Or.inl (by omega)
            · rw [cif_f co]
              refine br_t ?_ (ih I2 T2 f2 r2 (none' fun hr => co ((ok_r4 hn).mpr hr).1))
              split
              · decide
              · rw [fa_le, nI_toInt (by omega)]; simp
        · intro k hk ihk x3 I2 f2 r2 t2 hx3
          refine w_X12_findRing_37 hs _ _ _ _ (br_f (nI_ge hk (by omega)) ⟨vp_in_nI (by omega) (by decide), ?_⟩)
          have esh : 3 * (nI n - 1 - nI k) = nI (3 * (n - 1 - k)) := by
            rw [show (1 : Int32) = nI 1 from rfl, pk_sub (by omega), pk_sub (by omega), N3, pk_mul]
          have edg : (nI c >>> ((3 * (nI n - 1 - nI k)) &&& 31)) &&& 7 = nI (tM n c k) := by
            rw [esh, pk_shrN (by omega) _ (3 * (n - 1 - k)) (s_l _ (by omega)), pk_andN (Nat.lt_of_le_of_lt (Nat.div_le_self _ _) (by omega)) 3 (by decide)]
            rfl
          rw [edg, nI_clamp (by omega), f2 90 (by decide) (by decide) (by decide), hH, nI_1]
          have tl := tM_lt n c k
          refine ihk _ _ (fun a h1 h2 h3 => by rw [uI_ne h3]; exact f2 a h1 h2 h3) (by
            unfold RPM
            rw [uI_ne (by decide), uI_ne (by decide)]
            exact r2) (fun i hi => ?_) ?_
          · by_cases e : i = k
            · rw [e, uI_eq]
            · rw [uI_nj e]; exact t2 i (by omega)
          · rcases hx3 with ⟨rfl, hno⟩ | ⟨rfl, hall⟩
            · exact Or.inl ⟨bI_f (fun e => e.1 rfl), fun hh => hno fun i hi => hh i (by omega)⟩
            · by_cases cl : tM n c k < cH V
              · refine Or.inr ⟨bI_t ⟨by decide, nI_ge cl (by omega)⟩, lt_s hall cl⟩
              · refine Or.inl ⟨bI_f (fun e => e.2 (nI_le (by omega) (by omega))), fun hh => cl (hh k (by omega))⟩
      exact K37 0 (by omega) 1 I2 f2 r2 (fun i hi => absurd hi (by omega)) (Or.inr ⟨rfl, fun i hi => absurd hi (by omega)⟩)
  have nxt : ∀ n T2, (n = 2 ∨ n = 3 ∨ n = 4) → BOM V n (2 ^ (3 * n)) T2 → BOM V (n + 1) 0 T2 := fun n T2 hn hb => by
    refine BO_cg hb (fun a b c d' hr => ?_)
    have hbd := r4_b h8 hr
    unfold PM
    constructor
    · rintro (q | ⟨q1, q2⟩)
      · by_cases e : n4 c d' < n
        · exact Or.inl e
        · refine Or.inr ⟨by omega, ?_⟩
          have en : n4 c d' = n := by omega
          unfold n4 at en
          unfold cdM
          rcases hn with rfl | rfl | rfl
          · by_cases c0 : c = 0
            · rw [if_pos c0]; simp; omega
            · rw [if_neg c0] at en; split at en <;> omega
          · by_cases c0 : c = 0
            · rw [if_pos c0] at en; omega
            · rw [if_neg c0] at en ⊢
              by_cases d0 : d' = 0
              · rw [if_pos d0]; simp; omega
              · rw [if_neg d0] at en; omega
          · by_cases c0 : c = 0
            · rw [if_pos c0] at en; omega
            · rw [if_neg c0] at en ⊢
              by_cases d0 : d' = 0
              · rw [if_pos d0] at en; omega
              · rw [if_neg d0]; simp; omega
      · omega
    · rintro (q | ⟨q1, q2⟩)
      · exact Or.inl (by omega)
      · exact Or.inl (by omega)
  have K5 : ∀ I2 T2, (∀ a, a ≠ 83 → a ≠ 144 → a ≠ 145 → I2 a = Ib a) → RPM I2 T2 → BOM V 5 0 T2 → (J E mX12_findRing (d + 7) Q 0 0 16 [some (.ref (eB E + 83)), some (.int (nI 5)), none, none, none, none] [] h I2 L) := by
    intro I2 T2 f2 r2 b2
    refine w_X12_findRing_16 hs _ (br_t (by decide) ?_)
    have hbo : BO V (fun _ _ _ _ => True) T2.1 T2.2.1 T2.2.2.1 T2.2.2.2.1 T2.2.2.2.2.1 T2.2.2.2.2.2 := BO_cg b2 (fun a b c d' hr => ⟨fun _ => Or.inl (by have := n4_pos c d'; omega), fun _ => trivial⟩)
    obtain ⟨e1, e2, e3⟩ := rgT_of h8 hbo
    have en : rgN V = T2.2.2.2.2.1 := by have := (BO_n w hbo).1; unfold rgN; rw [e1]; omega
    have es : rgS V = T2.2.2.2.2.2 := e2
    refine hQ I2 (fun a ha => by rw [f2 a (by omega) (by omega) (by omega)]; exact fb a (by omega) (by omega) (by omega) (by omega)) ⟨rgT_bo hbo, tb I2 f2, ?_, fun hne => ?_, fun k hk => ?_⟩
    · rw [en]; exact r2.1
    · rw [es, r2.2.1, if_neg (by omega)]
    · rw [en] at hk
      rw [r2.2.2 (by omega) k hk]
      obtain ⟨q1, q2, q3, q4⟩ := e3 (by omega)
      unfold rgK
      rw [q1, q2, q3, q4]
  have step : ∀ n, (n = 2 ∨ n = 3 ∨ n = 4) → (∀ I2 T2, (∀ a, a ≠ 83 → a ≠ 144 → a ≠ 145 → I2 a = Ib a) → RPM I2 T2 → BOM V (n + 1) 0 T2 → (J E mX12_findRing (d + 7) Q 0 0 16 [some (.ref (eB E + 83)), some (.int (nI (n + 1))), none, none, none, none] [] h I2 L)) → ∀ I2 T2, (∀ a, a ≠ 83 → a ≠ 144 → a ≠ 145 → I2 a = Ib a) → RPM I2 T2 → BOM V n 0 T2 → (J E mX12_findRing (d + 7) Q 0 0 16 [some (.ref (eB E + 83)), some (.int (nI n)), none, none, none, none] [] h I2 L) := by
    intro n hn hK I2 T2 f2 r2 b2
    refine w_X12_findRing_16 hs _ (br_f (nI_nlt (show n ≤ 4 by omega) (by decide)) ?_)
    exact row n hn (fun I3 T3 f3 r3 b3 => hK I3 T3 f3 r3 (nxt n T3 hn b3)) 0 (Nat.zero_le _) I2 T2 f2 r2 b2
  have K2 := step 2 (by omega) (step 3 (by omega) (step 4 (by omega) K5))
  refine K2 _ (0, 0, 0, 0, 0, 0) (fun a h1 h2 h3 => by rw [uI_ne h1, uI_ne h1]) ⟨?_, ?_, fun e => absurd rfl e⟩ (Or.inl ⟨rfl, rfl, fun a b c d' hr hp => ?_⟩)
  · rw [uI_nj (by decide), uI_eq]; rfl
  · rw [uI_eq]; rfl
  · have := n4_pos c d'
    rcases hp with q | ⟨q1, q2⟩
    · omega
    · omega
end RF
