/-! what holds at the law's entry of classes, array classes, String constants, static fields -/
theorem tb1 {w : Cond} (h : w ∈ tables_1_1) : w ∈ lw_tbl := List.mem_append_right _ (List.mem_append_left _ h)
theorem tb2 {w : Cond} (h : w ∈ tables_1_2) : w ∈ lw_tbl := List.mem_append_right _ (List.mem_append_right _ (List.mem_append_left _ h))
theorem tb3 {w : Cond} (h : w ∈ tables_1_3) : w ∈ lw_tbl := List.mem_append_right _ (List.mem_append_right _ (List.mem_append_right _ (List.mem_append_left _ h)))
theorem tb4 {w : Cond} (h : w ∈ tables_1_4) : w ∈ lw_tbl := List.mem_append_right _ (List.mem_append_right _ (List.mem_append_right _ (List.mem_append_right _ (List.mem_append_left _ h))))
theorem tb5 {w : Cond} (h : w ∈ tables_1_5) : w ∈ lw_tbl := List.mem_append_right _ (List.mem_append_right _ (List.mem_append_right _ (List.mem_append_right _ (List.mem_append_right _ (List.mem_append_left _ h)))))
theorem tb6 {w : Cond} (h : w ∈ tables_1_6) : w ∈ lw_tbl := List.mem_append_right _ (List.mem_append_right _ (List.mem_append_right _ (List.mem_append_right _ (List.mem_append_right _ (List.mem_append_right _ (List.mem_append_left _ h))))))
theorem tb7 {w : Cond} (h : w ∈ tables_1_7) : w ∈ lw_tbl := List.mem_append_right _ (List.mem_append_right _ (List.mem_append_right _ (List.mem_append_right _ (List.mem_append_right _ (List.mem_append_right _ (List.mem_append_right _ (List.mem_append_left _ h)))))))
theorem tb8 {w : Cond} (h : w ∈ tables_1_8) : w ∈ lw_tbl := List.mem_append_right _ (List.mem_append_right _ (List.mem_append_right _ (List.mem_append_right _ (List.mem_append_right _ (List.mem_append_right _ (List.mem_append_right _ (List.mem_append_right _ (List.mem_append_left _ h))))))))
theorem tb9 {w : Cond} (h : w ∈ tables_1_9) : w ∈ lw_tbl := List.mem_append_right _ (List.mem_append_right _ (List.mem_append_right _ (List.mem_append_right _ (List.mem_append_right _ (List.mem_append_right _ (List.mem_append_right _ (List.mem_append_right _ (List.mem_append_right _ h))))))))
def fC : List Cond := flatC (Jvm.Cond.and given_1 narrow_1)
def tmS (i : Nat) : Term := .string RX8 (sIdx.getD i 0)
def tmV (i : Nat) : Term := .field (tmS i) "java/lang/String" "value" "[B"
def ixE : List Nat := [9, 15, 23, 33, 44, 56, 70, 85, 100, 115, 131, 150, 168, 188, 208, 230, 253, 276, 301]
def ixC : List Nat := [10, 16, 24, 34, 45, 57, 71, 86, 101, 116, 132, 151, 169, 189, 209, 231, 254, 277, 302]
def ixA : List Nat := [11, 17, 25, 35, 46, 58, 72, 87, 102, 117, 133, 152, 170, 190, 210, 232, 255, 278, 303]
def ixL : List Nat := [12, 18, 26, 36, 47, 59, 73, 88, 103, 118, 134, 153, 171, 191, 211, 233, 256, 279, 304]
def ixB : List (List Nat) := [[13, 14], [19, 20, 21], [27, 28, 29, 30], [37, 38, 39, 40], [48, 49, 50, 51], [60, 61, 62, 63, 64], [74, 75, 76, 77, 78], [89, 90, 91, 92], [104, 105, 106], [119, 120, 121], [135, 136, 137, 138, 139], [154, 155, 156], [172, 173, 174, 175], [192, 193, 194], [212, 213, 214, 215], [234, 235, 236, 237], [257, 258, 259], [280, 281, 282, 283], [305, 306, 307, 308]]
def ixN : List (List Nat) := [[0, 22, 31, 41, 52, 65, 79, 93, 107, 122, 140, 157, 176, 195, 216, 238, 260, 284, 309], [0, 0, 32, 42, 53, 66, 80, 94, 108, 123, 141, 158, 177, 196, 217, 239, 261, 285, 310], [0, 0, 0, 43, 54, 67, 81, 95, 109, 124, 142, 159, 178, 197, 218, 240, 262, 286, 311], [0, 0, 0, 0, 55, 68, 82, 96, 110, 125, 143, 160, 179, 198, 219, 241, 263, 287, 312], [0, 0, 0, 0, 0, 69, 83, 97, 111, 126, 144, 161, 180, 199, 220, 242, 264, 288, 313], [0, 0, 0, 0, 0, 0, 84, 98, 112, 127, 145, 162, 181, 200, 221, 243, 265, 289, 314], [0, 0, 0, 0, 0, 0, 0, 99, 113, 128, 146, 163, 182, 201, 222, 244, 266, 290, 315], [0, 0, 0, 0, 0, 0, 0, 0, 114, 129, 147, 164, 183, 202, 223, 245, 267, 291, 316], [0, 0, 0, 0, 0, 0, 0, 0, 0, 130, 148, 165, 184, 203, 224, 246, 268, 292, 317], [0, 0, 0, 0, 0, 0, 0, 0, 0, 0, 149, 166, 185, 204, 225, 247, 269, 293, 318], [0, 0, 0, 0, 0, 0, 0, 0, 0, 0, 0, 167, 186, 205, 226, 248, 270, 294, 319], [0, 0, 0, 0, 0, 0, 0, 0, 0, 0, 0, 0, 187, 206, 227, 249, 271, 295, 320], [0, 0, 0, 0, 0, 0, 0, 0, 0, 0, 0, 0, 0, 207, 228, 250, 272, 296, 321], [0, 0, 0, 0, 0, 0, 0, 0, 0, 0, 0, 0, 0, 0, 229, 251, 273, 297, 322], [0, 0, 0, 0, 0, 0, 0, 0, 0, 0, 0, 0, 0, 0, 0, 252, 274, 298, 323], [0, 0, 0, 0, 0, 0, 0, 0, 0, 0, 0, 0, 0, 0, 0, 0, 275, 299, 324], [0, 0, 0, 0, 0, 0, 0, 0, 0, 0, 0, 0, 0, 0, 0, 0, 0, 300, 325], [0, 0, 0, 0, 0, 0, 0, 0, 0, 0, 0, 0, 0, 0, 0, 0, 0, 0, 326], [0, 0, 0, 0, 0, 0, 0, 0, 0, 0, 0, 0, 0, 0, 0, 0, 0, 0, 0]]
theorem zc_e : ∀ i, i < 19 → fC[ixE.getD i 0]? = some (Cond.exactly (tmS i) "java/lang/String") := by decide +kernel
theorem zc_c : ∀ i, i < 19 → fC[ixC.getD i 0]? = some (Cond.eq (.field (tmS i) "java/lang/String" "coder" "B") (.int 0)) := by decide +kernel
theorem zc_a : ∀ i, i < 19 → fC[ixA.getD i 0]? = some (Cond.arrayOf (tmV i) .byte) := by decide +kernel
theorem zc_l : ∀ i, i < 19 → fC[ixL.getD i 0]? = some (Cond.eq (.length (tmV i)) (.int (Int32.ofNat (sLen.getD i 0)))) := by decide +kernel
theorem zc_b : ∀ i, i < 19 → ∀ j, j < sLen.getD i 0 → fC[(ixB.getD i []).getD j 0]? = some (Cond.eq (.elem (tmV i) (.int (Int32.ofNat j))) (.int ((sByt.getD i []).getD j 0))) := by decide +kernel
theorem zc_n : ∀ i, i < 19 → ∀ j, j < 19 → i < j → fC[(ixN.getD i []).getD j 0]? = some (Cond.not (Cond.eq (tmS i) (tmS j))) := by decide +kernel
theorem zc_s : fC[4]? = some (Cond.eq (.static "java/lang/String" "COMPACT_STRINGS" "Z") (.int 1)) := by decide +kernel
theorem zc_q : fC[5]? = some (Cond.isRef (.static "jdk/internal/util/Preconditions" "SIOOBE_FORMATTER" "Ljava/util/function/BiFunction;")) := by decide +kernel
def ixS : List Nat := [91, 152, 157, 158, 159, 160, 161, 162, 163, 164, 165, 166, 167, 180, 193, 194, 195, 196, 197]
theorem tb_s : ∀ i, i < 19 → tables_1_4[ixS.getD i 0]? = some (Cond.stringRef RX8 (sIdx.getD i 0) (sTx.getD i "")) := by decide +kernel
theorem tb_m : ∀ k, k < 15 → ∃ q, nestW[k]? = some q ∧ Cond.methodLinkNest q.1 q.2.1 q.2.2 RX11 ∈ lw_tbl := by
  intro k hk
  by_cases e0 : k = 0
  · subst e0
    exact ⟨_, rfl, tb1 (List.mem_of_getElem? (i := 38) rfl)⟩
  by_cases e1 : k = 1
  · subst e1
    exact ⟨_, rfl, tb1 (List.mem_of_getElem? (i := 71) rfl)⟩
  by_cases e2 : k = 2
  · subst e2
    exact ⟨_, rfl, tb1 (List.mem_of_getElem? (i := 137) rfl)⟩
  by_cases e3 : k = 3
  · subst e3
    exact ⟨_, rfl, tb1 (List.mem_of_getElem? (i := 174) rfl)⟩
  by_cases e4 : k = 4
  · subst e4
    exact ⟨_, rfl, tb3 (List.mem_of_getElem? (i := 229) rfl)⟩
  by_cases e5 : k = 5
  · subst e5
    exact ⟨_, rfl, tb4 (List.mem_of_getElem? (i := 206) rfl)⟩
  by_cases e6 : k = 6
  · subst e6
    exact ⟨_, rfl, tb4 (List.mem_of_getElem? (i := 207) rfl)⟩
  by_cases e7 : k = 7
  · subst e7
    exact ⟨_, rfl, tb4 (List.mem_of_getElem? (i := 233) rfl)⟩
  by_cases e8 : k = 8
  · subst e8
    exact ⟨_, rfl, tb5 (List.mem_of_getElem? (i := 239) rfl)⟩
  by_cases e9 : k = 9
  · subst e9
    exact ⟨_, rfl, tb6 (List.mem_of_getElem? (i := 59) rfl)⟩
  by_cases e10 : k = 10
  · subst e10
    exact ⟨_, rfl, tb6 (List.mem_of_getElem? (i := 64) rfl)⟩
  by_cases e11 : k = 11
  · subst e11
    exact ⟨_, rfl, tb6 (List.mem_of_getElem? (i := 65) rfl)⟩
  by_cases e12 : k = 12
  · subst e12
    exact ⟨_, rfl, tb6 (List.mem_of_getElem? (i := 74) rfl)⟩
  by_cases e13 : k = 13
  · subst e13
    exact ⟨_, rfl, tb6 (List.mem_of_getElem? (i := 75) rfl)⟩
  by_cases e14 : k = 14
  · subst e14
    exact ⟨_, rfl, tb6 (List.mem_of_getElem? (i := 78) rfl)⟩
  omega
theorem arr_of {args : Array Value} {s : State} {t : FieldType} (hp : ∀ C, t ≠ .object C) (h : (Cond.arrayClass t).before args s = true) : ∃ cA : ClassId, ArrOfT s cA t ∧ va_RA s cA t := by
  obtain ⟨c, k, comp, h1, h2, h3⟩ := Cond.arrayClass_spec h
  refine ⟨c, fun n z => ⟨(fun k h => by cases h), k, h2, comp, h3⟩, ?_⟩
  cases t with
  | object C => exact absurd rfl (hp C)
  | _ => exact h1
theorem arr_ob {args : Array Value} {s : State} {C : String} (h : (Cond.arrayOver (.object C)).before args s = true) : ∃ cA : ClassId, ArrOfT s cA (.object C) ∧ va_RA s cA (.object C) := by
  obtain ⟨comp, c, k, h1, h2, h3, h4, h5⟩ := Cond.arrayOver_spec h
  exact ⟨c, fun n z => ⟨(fun k h => by cases h), k, h3, comp, h4⟩, k, comp, h3, h4, h1, h5⟩
set_option maxHeartbeats 1000000 in
theorem sf_start {s : State} {b n : Nat} {xs : Nat → Int32} (l : Launch) (hts : ∀ w ∈ lw_tbl, w.before #[Value.ref b] s = true) (hgv : (Jvm.Cond.and given_1 narrow_1).before #[Value.ref b] s = true) (hX : va_X b n xs s s.heap) (hb : b < s.heap.size) (hn : n ≤ 3072) :
    ∃ E : Envt, eL E = l ∧ eB E = s.heap.size ∧ eb E = b ∧ eN E = n ∧ Sf E s s.heap := by
  have hg : ∀ w ∈ gT, w.before #[Value.ref b] s = true := fun w hw => hts w (List.mem_filter.mp hw).1
  have hf : ∀ (i : Nat) (w : Cond), fC[i]? = some w → w.before #[Value.ref b] s = true := fun i w h => flat_of_before _ hgv w (List.mem_of_getElem? h)
  have hA : ∀ a : Nat, a < s.heap.size → ¬ (fun q : Nat => s.heap.size ≤ q) a := fun a h => Nat.not_le.mpr h
  obtain ⟨c0, i0, k0⟩ := u_known (C := RX0) (T := TX0) (N := 10) (n := 10) hg cls0.2.1 (hg _ isX0)
  obtain ⟨c1, i1, k1⟩ := u_known (C := RX1) (T := TX1) (N := 5) (n := 5) hg cls1.2.1 (hg _ isX1)
  obtain ⟨c2, i2, k2⟩ := u_known (C := RX2) (T := TX2) (N := 10) (n := 10) hg cls2.2.1 (hg _ isX2)
  obtain ⟨c3, i3, k3⟩ := u_known (C := RX3) (T := TX3) (N := 8) (n := 8) hg cls3.2.1 (hg _ isX3)
  obtain ⟨c4, i4, k4⟩ := u_known (C := RX4) (T := TX4) (N := 12) (n := 12) hg cls4.2.1 (hg _ isX4)
  obtain ⟨c5, i5, k5⟩ := u_known (C := RX5) (T := TX5) (N := 7) (n := 7) hg cls5.2.1 (hg _ isX5)
  obtain ⟨c6, i6, k6⟩ := u_known (C := RX6) (T := TX6) (N := 15) (n := 15) hg cls6.2.1 (hg _ isX6)
  obtain ⟨c7, i7, k7⟩ := u_known (C := RX7) (T := TX7) (N := 10) (n := 10) hg cls7.2.1 (hg _ isX7)
  obtain ⟨c8, i8, k8⟩ := u_known (C := RX8) (T := TX8) (N := 12) (n := 12) hg cls8.2.1 (hg _ isX8)
  obtain ⟨c9, i9, k9⟩ := u_known (C := RX9) (T := TX9) (N := 9) (n := 9) hg cls9.2.1 (hg _ isX9)
  obtain ⟨c10, i10, k10⟩ := u_known (C := RX10) (T := TX10) (N := 8) (n := 8) hg cls10.2.1 (hg _ isX10)
  obtain ⟨c11, i11, k11⟩ := u_known (C := RX11) (T := TX11) (N := 7) (n := 7) hg cls11.2.1 (hg _ isX11)
  obtain ⟨c12, i12, k12⟩ := u_known (C := RX12) (T := TX12) (N := 83) (n := 83) hg cls12.2.1 (hg _ isX12)
  obtain ⟨a0, r0⟩ := arr_of (t := .byte) (fun _ => by simp) (hts _ (tb2 (List.mem_of_getElem? (i := 34) rfl)))
  obtain ⟨a1, r1⟩ := arr_of (t := .int) (fun _ => by simp) (hts _ (tb1 (List.mem_of_getElem? (i := 68) rfl)))
  obtain ⟨a2, r2⟩ := arr_of (t := .long) (fun _ => by simp) (hts _ (tb7 (List.mem_of_getElem? (i := 100) rfl)))
  obtain ⟨a3, r3⟩ := arr_of (t := .boolean) (fun _ => by simp) (hts _ (tb1 (List.mem_of_getElem? (i := 127) rfl)))
  have o0 := hts (.arrayOver (.object RX0)) (tb2 (List.mem_of_getElem? (i := 87) rfl))
  have o10 := hts (.arrayOver (.object RX10)) (tb1 (List.mem_of_getElem? (i := 179) rfl))
  obtain ⟨a4, r4⟩ := arr_ob o0
  obtain ⟨a5, r5⟩ := arr_ob o10
  obtain ⟨adK, adV, hS, hT⟩ := vk_Sof (args := #[Value.ref b]) (s := s) (N := 19) (tm := tmS) (len := sLen) (byt := sByt) (A := fun q : Nat => s.heap.size ≤ q) (by decide) (fun i hi => hf _ _ (zc_e i hi)) (fun i hi => hf _ _ (zc_c i hi)) (fun i hi => hf _ _ (zc_a i hi)) (fun i hi => hf _ _ (zc_l i hi)) (fun i hi j hj => hf _ _ (zc_b i hi j hj))
    (fun i j hi hj hij => by
      rcases Nat.lt_or_gt_of_ne hij with h | h
      · exact Or.inl (hf _ _ (zc_n i hi j hj h))
      · exact Or.inr (hf _ _ (zc_n j hj i hi h))) hA
  have hz : va_Z "java/lang/String" "COMPACT_STRINGS" "Z" (.int 1) (fun q : Nat => s.heap.size ≤ q) s s.heap := va_Zof (hts _ (tb4 (List.mem_of_getElem? (i := 105) rfl))) (hts _ (tb1 (List.mem_of_getElem? (i := 17) rfl))) (va_eqi (hf _ _ zc_s)) hA
  have hq : va_Zq "jdk/internal/util/Preconditions" "SIOOBE_FORMATTER" "Ljava/util/function/BiFunction;" (fun q : Nat => s.heap.size ≤ q) s s.heap := va_Zqof (hts _ (tb4 (List.mem_of_getElem? (i := 121) rfl))) (hts _ (tb1 (List.mem_of_getElem? (i := 19) rfl))) (hf _ _ zc_q) hA
  refine ⟨(l, (fun k => [c0, c1, c2, c3, c4, c5, c6, c7, c8, c9, c10, c11, c12].getD k c0, fun k => [i0, i1, i2, i3, i4, i5, i6, i7, i8, i9, i10, i11, i12].getD k i0), (fun k => [a0, a1, a2, a3, a4, a5].getD k a0), s.heap.size, adK, adV, b, n, xs), rfl, rfl, rfl, rfl, ⟨?_, ?_⟩, hS, ?_, ?_, hz, hX, hb, ?_, va_AO.of o0, va_AO.of o10, hq⟩
  · intro k q hq
    match k, hq with
    | 0, hq => cases hq; exact k0
    | 1, hq => cases hq; exact k1
    | 2, hq => cases hq; exact k2
    | 3, hq => cases hq; exact k3
    | 4, hq => cases hq; exact k4
    | 5, hq => cases hq; exact k5
    | 6, hq => cases hq; exact k6
    | 7, hq => cases hq; exact k7
    | 8, hq => cases hq; exact k8
    | 9, hq => cases hq; exact k9
    | 10, hq => cases hq; exact k10
    | 11, hq => cases hq; exact k11
    | 12, hq => cases hq; exact k12
    | k + 13, hq => simp [vwCl] at hq
  · intro k q hq
    match k, hq with
    | 0, hq => cases hq; exact r0
    | 1, hq => cases hq; exact r1
    | 2, hq => cases hq; exact r2
    | 3, hq => cases hq; exact r3
    | 4, hq => cases hq; exact r4
    | 5, hq => cases hq; exact r5
    | k + 6, hq => simp [tysE] at hq
  · intro i hi
    exact vk_R.of (hts _ (tb4 (List.mem_of_getElem? (tb_s i hi)))) (hT i hi)
  · intro q hq
    obtain ⟨k, hk⟩ := List.getElem?_of_mem hq
    obtain ⟨q', h1, h2⟩ := tb_m k (by simpa [nestW] using (List.getElem?_eq_some_iff.mp hk).1)
    rw [hk] at h1
    cases h1
    exact va_Nw.of rfl (hts _ h2)
  · show n < 2 ^ 31
    omega
