/-! String constants: length, charAt -/
section JS
variable {E : Envt} {M : Mth} {d : Nat} {Qp : Pst} {bc bs pc : Nat} {vs : List (Option Value)} {st : List Value} {h : mS} {I : mI} {L : mL}
theorem J.callStr {M' : Mth} {index n w bc' bs' : Nat} {stk : List Value} (As : List Value) (hl : Cond.methodLink M.1.cls index M'.1 ∈ gT) (cv : CalV M' n) (hd : decode M.2.1 pc = .ok (.invokevirtual index, 3)) (hw : w < 19) (hqn : "java/lang/String" = M'.1.cls) (hn : As.length = n) (hs : stk = As.reverse ++ .ref (eK E w) :: st) (hst : (st.map fun v => v.category).sum ≤ 8)
    (k : CT E M' d bc' bs' (.ref (eK E w) :: As) h I L (fun r h' I' L' => J E M (d + 1) Qp bc bs (pc + 3) vs (r.toList ++ st) h' I' L')) : J E M (d + 1) Qp (bc + bc') (bs + bs') pc vs stk h I L := by
  intro p e R s m args below meth c Z H locs cells slots ls F h2 h3 h4 S P V h8 h9 h10
  subst hs
  have hts := F.2.2.2.2.1
  obtain ⟨⟨c1, c2, c3, c4⟩, c5, c6⟩ := cv
  obtain ⟨cell, q1, q2, q3, -⟩ := (S.2.1.1 w hw).1
  exact run_J (va_runV (g := F0 m pc ls _) (C := M'.1.cls) ⟨F.1, F.2.1, F.2.2.1, F.2.2.2.1, hts⟩ k ⟨callB_of n hts (wsU_good c2) rfl rfl rfl (hts _ c1) (hts _ hl) c3 ⟨by show d + 1 ≤ _; omega, by show _ + 64 * d ≤ _; omega⟩, hts _ c5, hts _ c6⟩ ⟨Pcc_blind, ⟨cell, q1, q2, by rw [← hqn]; exact q3⟩, pcc_at S P⟩ rfl hn h10.1 rfl (lv_room hst) hd ⟨by omega, by omega⟩) F h2 h3 h4 S P V h8 h9 h10
theorem J.getSv {index w : Nat} (hl : Cond.fieldLink M.1.cls index "java/lang/String" "value" "[B" ∈ gT) (hw : w < 19) (hd : decode M.2.1 pc = .ok (.getfield index, 3)) (k : J E M d Qp bc bs (pc + 3) vs (.ref (eV E w) :: st) h I L) : J E M d Qp bc bs pc vs (.ref (eK E w) :: st) h I L := by
  refine J.go (fun p e R s m args below meth c Z H locs cells slots ls F S P V hl' k => ?_) k
  obtain ⟨cf, kf, fi, f, cell, q1, q2, q3, q4, q5, -⟩ := (S.2.1.1 w hw).2.2.1
  exact W.getf F.1 F.2.1 F.2.2.2.1 (F.2.2.2.2.1 _ hl) q1 q2 q3 q4 q5 rfl rfl hd k
theorem J.getSc {index w : Nat} (hl : Cond.fieldLink M.1.cls index "java/lang/String" "coder" "B" ∈ gT) (hw : w < 19) (hd : decode M.2.1 pc = .ok (.getfield index, 3)) (k : J E M d Qp bc bs (pc + 3) vs (.int 0 :: st) h I L) : J E M d Qp bc bs pc vs (.ref (eK E w) :: st) h I L := by
  refine J.go (fun p e R s m args below meth c Z H locs cells slots ls F S P V hl' k => ?_) k
  obtain ⟨cf, kf, fi, f, cell, q1, q2, q3, q4, q5, -⟩ := (S.2.1.1 w hw).2.1
  exact W.getf F.1 F.2.1 F.2.2.2.1 (F.2.2.2.2.1 _ hl) q1 q2 q3 q4 q5 rfl rfl hd k
theorem J.alenS {w : Nat} (hw : w < 19) (hd : decode M.2.1 pc = .ok (.arraylength, 1)) (k : J E M d Qp bc bs (pc + 1) vs (.int (Int32.ofNat (sLen.getD w 0)) :: st) h I L) : J E M d Qp bc bs pc vs (.ref (eV E w) :: st) h I L := by
  refine J.go (fun p e R s m args below meth c Z H locs cells slots ls F S P V hl' k => ?_) k
  obtain ⟨cell, q1, q2, q3, q4, q5, q6, -⟩ := (S.2.1.1 w hw).2.2.2
  exact W.alen F.1 F.2.1 q1 q2 q5 rfl rfl hd k
theorem J.baldS {w : Nat} {i : Int32} (hw : w < 19) (hi : vp_in i (sLen.getD w 0)) (hd : decode M.2.1 pc = .ok (.baload, 1)) (k : J E M d Qp bc bs (pc + 1) vs (.int ((sByt.getD w []).getD i.toNatClampNeg 0) :: st) h I L) : J E M d Qp bc bs pc vs (.int i :: .ref (eV E w) :: st) h I L := by
  refine J.go (fun p e R s m args below meth c Z H locs cells slots ls F S P V hl' k => ?_) k
  obtain ⟨cell, q1, q2, q3, q4, q5, q6, -⟩ := (S.2.1.1 w hw).2.2.2
  have h1 : i.toNatClampNeg < sLen.getD w 0 := Nat.not_le.mp fun q => hi (Or.inr q)
  exact W.bald F.1 F.2.1 q1 q2 q3 (fun q => q.elim (fun q => hi (Or.inl q)) (fun q => by omega)) (q6 _ h1) rfl rfl hd k
theorem J.gets {index : Nat} (hl : Cond.fieldLink M.1.cls index "java/lang/String" "COMPACT_STRINGS" "Z" ∈ gT) (hd : decode M.2.1 pc = .ok (.getstatic index, 3)) (k : J E M d Qp bc bs (pc + 3) vs (.int 1 :: st) h I L) : J E M d Qp bc bs pc vs st h I L := by
  refine J.go (fun p e R s m args below meth c Z H locs cells slots ls F S P V hl' k => ?_) k
  obtain ⟨cf, kf, fi, f, a, cell, g1, g2, g3, g4, g5, g6, g7, -⟩ := S.2.2.2.2.1
  exact W.gets F.1 F.2.1 F.2.2.2.1 (F.2.2.2.2.1 _ hl) g1 g2 g3 g4 g5 (fun e => by rw [e] at g6; cases g6) g7 rfl hd k
theorem J.getsq {index : Nat} (hl : Cond.fieldLink M.1.cls index "jdk/internal/util/Preconditions" "SIOOBE_FORMATTER" "Ljava/util/function/BiFunction;" ∈ gT) (hd : decode M.2.1 pc = .ok (.getstatic index, 3)) (k : ∀ v : Value, (v = .null ∨ ∃ t, v = .ref t) → J E M d Qp bc bs (pc + 3) vs (v :: st) h I L) : J E M d Qp bc bs pc vs st h I L := by
  intro p e R s m args below meth c Z H locs cells slots ls F h2 h3 h4 S P V h8 h9 h10
  rcases S.2.2.2.2.2.2.2.2.2.2 with ⟨cf, kf, fi, f, a, cell, g1, g2, g3, g4, g5, g6, g7, -⟩ | ⟨t, cf, kf, fi, f, a, cell, g1, g2, g3, g4, g5, g6, g7, -⟩
  · exact W.gets F.1 F.2.1 F.2.2.2.1 (F.2.2.2.2.1 _ hl) g1 g2 g3 g4 g5 (fun e => by rw [e] at g6; cases g6) g7 rfl hd (k _ (Or.inl rfl) p e R s m args below meth c Z H locs cells slots ls F h2 h3 h4 S P V h8 h9 h10)
  · exact W.gets F.1 F.2.1 F.2.2.2.1 (F.2.2.2.2.1 _ hl) g1 g2 g3 g4 g5 (fun e => by rw [e] at g6; cases g6) g7 rfl hd (k _ (Or.inr ⟨_, rfl⟩) p e R s m args below meth c Z H locs cells slots ls F h2 h3 h4 S P V h8 h9 h10)
end JS
theorem pf_coder {E : Envt} {d : Nat} {h : mS} {I : mI} {L : mL} {w : Nat} (hw : w < 19) : CT E mJ0_coder_7d493 d 0 0 [.ref (eK E w)] h I L (qi h L (fun v I' => I' = I ∧ v = 0)) := by
  refine CT.ofF (by decide +kernel) [some (.ref (eK E w))] rfl (Nat.le_of_ble_eq_true rfl) ?_
  refine J.gets fk_J0_38 dJ0_coder_7d493_0 ?_
  refine J.if_eq 13 dJ0_coder_7d493_3 (by decide) (fun hc => absurd hc (by decide)) (fun hc => ?_)
  refine J.aload_n dJ0_coder_7d493_6 rfl rfl ?_
  refine J.getSc fk_J0_15 hw dJ0_coder_7d493_7 ?_
  refine J.goto 14 dJ0_coder_7d493_10 (by decide) ?_
  exact J.reti dJ0_coder_7d493_14 rfl (by decide) ⟨rfl, rfl, _, rfl, rfl, rfl⟩
theorem pf_isLatin1 {E : Envt} {d : Nat} {h : mS} {I : mI} {L : mL} {w : Nat} (hw : w < 19) : CT E mJ0_isLatin1_aae02 d 0 0 [.ref (eK E w)] h I L (qi h L (fun v I' => I' = I ∧ v = 1)) := by
  refine CT.ofF (by decide +kernel) [some (.ref (eK E w))] rfl (Nat.le_of_ble_eq_true rfl) ?_
  refine J.gets fk_J0_38 dJ0_isLatin1_aae02_0 ?_
  refine J.if_eq 17 dJ0_isLatin1_aae02_3 (by decide) (fun hc => absurd hc (by decide)) (fun hc => ?_)
  refine J.aload_n dJ0_isLatin1_aae02_6 rfl rfl ?_
  refine J.getSc fk_J0_15 hw dJ0_isLatin1_aae02_7 ?_
  refine J.if_ne 17 dJ0_isLatin1_aae02_10 (by decide) (fun hc => absurd rfl hc) (fun hc => ?_)
  refine J.iconst (v := 1) dJ0_isLatin1_aae02_13 (by decide) ?_
  refine J.goto 18 dJ0_isLatin1_aae02_14 (by decide) ?_
  exact J.reti dJ0_isLatin1_aae02_18 rfl (by decide) ⟨rfl, rfl, _, rfl, rfl, rfl⟩
theorem pf_length {E : Envt} {d : Nat} {h : mS} {I : mI} {L : mL} {w : Nat} (hw : w < 19) : CT E mJ0_length_8abf5 (d + 1) 0 0 [.ref (eK E w)] h I L (qi h L (fun v I' => I' = I ∧ v = Int32.ofNat (sLen.getD w 0))) := by
  refine CT.ofF (by decide +kernel) [some (.ref (eK E w))] rfl (Nat.le_of_ble_eq_true rfl) ?_
  refine J.aload_n dJ0_length_8abf5_0 rfl rfl ?_
  refine J.getSv fk_J0_9 hw dJ0_length_8abf5_1 ?_
  refine J.alenS hw dJ0_length_8abf5_4 ?_
  refine J.aload_n dJ0_length_8abf5_5 rfl rfl ?_
  refine J.callStr [] ml_J0_335 cv_J0_coder_7d493 dJ0_length_8abf5_6 hw rfl rfl rfl (Nat.le_of_ble_eq_true rfl) (kqi (pf_coder hw) (fun v I1 hv => ?_))
  obtain ⟨rfl, rfl⟩ := hv
  refine J.ishr dJ0_length_8abf5_9 ?_
  exact J.reti dJ0_length_8abf5_10 rfl rfl ⟨rfl, rfl, _, rfl, rfl, sb_shr0 _⟩
theorem pf_check3 {E : Envt} {d : Nat} {h : mS} {I : mI} {L : mL} {x0 x1 : Int32} {v : Value} (hv : v = .null ∨ ∃ t, v = .ref t) (h0 : ¬ x0 < 0) (h1 : x0 < x1) : CT E mJ3_checkIndex_8e157 d 0 0 [.int x0, .int x1, v] h I L (qi h L (fun r I' => I' = I ∧ r = x0)) := by
  refine CT.ofF (by decide +kernel) [some (.int x0), some (.int x1), some v] (by rcases hv with rfl | ⟨t, rfl⟩ <;> rfl) (by rcases hv with rfl | ⟨t, rfl⟩ <;> exact Nat.le_of_ble_eq_true rfl) ?_
  refine J.iload_n dJ3_checkIndex_8e157_0 rfl rfl ?_
  refine J.if_lt 9 dJ3_checkIndex_8e157_1 (by decide) (fun hc => absurd hc h0) (fun hc => ?_)
  refine J.iload_n dJ3_checkIndex_8e157_4 rfl rfl ?_
  refine J.iload_n dJ3_checkIndex_8e157_5 rfl rfl ?_
  refine J.ic_lt 16 dJ3_checkIndex_8e157_6 (by decide) (fun hc => ?_) (fun hc => absurd h1 hc)
  refine J.iload_n dJ3_checkIndex_8e157_16 rfl rfl ?_
  exact J.reti dJ3_checkIndex_8e157_17 rfl rfl ⟨rfl, rfl, _, rfl, rfl, rfl⟩
theorem pf_check0 {E : Envt} {d : Nat} {h : mS} {I : mI} {L : mL} {x0 x1 : Int32} (h0 : ¬ x0 < 0) (h1 : x0 < x1) : CT E mJ0_checkIndex_df160 (d + 1) 0 0 [.int x0, .int x1] h I L (qv h L (fun I' => I' = I)) := by
  refine CT.ofF (by decide +kernel) [some (.int x0), some (.int x1)] rfl (Nat.le_of_ble_eq_true rfl) ?_
  refine J.iload_n dJ0_checkIndex_df160_0 rfl rfl ?_
  refine J.iload_n dJ0_checkIndex_df160_1 rfl rfl ?_
  refine J.getsq fk_J0_1053 dJ0_checkIndex_df160_2 (fun v hv => ?_)
  refine J.callS [.int x0, .int x1, v] ml_J0_1059 cv_J3_checkIndex_8e157 dJ0_checkIndex_df160_5 rfl rfl (Nat.le_of_ble_eq_true rfl) (kqi (pf_check3 hv h0 h1) (fun v I1 hv => ?_))
  obtain ⟨rfl, rfl⟩ := hv
  refine J.pop dJ0_checkIndex_df160_8 rfl ?_
  exact J.retv dJ0_checkIndex_df160_9 rfl ⟨rfl, rfl, rfl, rfl⟩
theorem sByt_ok : ∀ w, w < 19 → ∀ k, k < sLen.getD w 0 → ((sByt.getD w []).getD k 0) &&& 255 = (sByt.getD w []).getD k 0 ∧ ((((sByt.getD w []).getD k 0) &&& 255).toUInt32 % 65536).toInt32 = (sByt.getD w []).getD k 0 := by decide +kernel
theorem sLen_ok : ∀ w, w < 19 → sLen.getD w 0 < 10 := by decide +kernel
theorem vp_lt {i : Int32} {n : Nat} (hn : n < 2 ^ 31) (h : vp_in i n) : i < Int32.ofNat n := by
  obtain ⟨j, hj, rfl⟩ := vp_in_of h hn
  exact nI_lt hj hn
theorem pf_lat {E : Envt} {d : Nat} {h : mS} {I : mI} {L : mL} {w : Nat} {i : Int32} (hw : w < 19) (hi : vp_in i (sLen.getD w 0)) : CT E mJ1_charAt_3b067 (d + 2) 0 0 [.ref (eV E w), .int i] h I L (qi h L (fun v I' => I' = I ∧ v = (sByt.getD w []).getD i.toNatClampNeg 0)) := by
  have hlen := sLen_ok w hw
  have hi1 : i.toNatClampNeg < sLen.getD w 0 := Nat.not_le.mp fun q => hi (Or.inr q)
  refine CT.ofF (by decide +kernel) [some (.ref (eV E w)), some (.int i)] rfl (Nat.le_of_ble_eq_true rfl) ?_
  refine J.iload_n dJ1_charAt_3b067_0 rfl rfl ?_
  refine J.aload_n dJ1_charAt_3b067_1 rfl rfl ?_
  refine J.alenS hw dJ1_charAt_3b067_2 ?_
  refine J.callS [.int i, .int (Int32.ofNat (sLen.getD w 0))] ml_J1_9 cv_J0_checkIndex_df160 dJ1_charAt_3b067_3 rfl rfl (Nat.le_of_ble_eq_true rfl) (kqv (pf_check0 (fun q => hi (Or.inl q)) (vp_lt (by omega) hi)) (fun I1 hv => ?_))
  subst hv
  refine J.aload_n dJ1_charAt_3b067_6 rfl rfl ?_
  refine J.iload_n dJ1_charAt_3b067_7 rfl rfl ?_
  refine J.baldS hw hi dJ1_charAt_3b067_8 ?_
  refine J.sipush (v := 255) dJ1_charAt_3b067_9 (by decide) ?_
  refine J.iand dJ1_charAt_3b067_12 ?_
  refine J.i2c dJ1_charAt_3b067_13 ?_
  exact J.reti dJ1_charAt_3b067_14 rfl (pk_nc _) ⟨rfl, rfl, _, rfl, rfl, (sByt_ok w hw _ hi1).2⟩
theorem pf_charAt {E : Envt} {d : Nat} {h : mS} {I : mI} {L : mL} {w : Nat} {i : Int32} (hw : w < 19) (hi : vp_in i (sLen.getD w 0)) : CT E mJ0_charAt_5068e (d + 3) 0 0 [.ref (eK E w), .int i] h I L (qi h L (fun v I' => I' = I ∧ v = (sByt.getD w []).getD i.toNatClampNeg 0)) := by
  have hi1 : i.toNatClampNeg < sLen.getD w 0 := Nat.not_le.mp fun q => hi (Or.inr q)
  refine CT.ofF (by decide +kernel) [some (.ref (eK E w)), some (.int i)] rfl (Nat.le_of_ble_eq_true rfl) ?_
  refine J.aload_n dJ0_charAt_5068e_0 rfl rfl ?_
  refine J.callStr [] ml_J0_492 cv_J0_isLatin1_aae02 dJ0_charAt_5068e_1 hw rfl rfl rfl (Nat.le_of_ble_eq_true rfl) (kqi (pf_isLatin1 hw) (fun v I1 hv => ?_))
  obtain ⟨rfl, rfl⟩ := hv
  refine J.if_eq 16 dJ0_charAt_5068e_4 (by decide) (fun hc => absurd hc (by decide)) (fun hc => ?_)
  refine J.aload_n dJ0_charAt_5068e_7 rfl rfl ?_
  refine J.getSv fk_J0_9 hw dJ0_charAt_5068e_8 ?_
  refine J.iload_n dJ0_charAt_5068e_11 rfl rfl ?_
  refine J.callS [.ref (eV E w), .int i] ml_J0_495 cv_J1_charAt_3b067 dJ0_charAt_5068e_12 rfl rfl (Nat.le_of_ble_eq_true rfl) (kqi (pf_lat hw hi) (fun v I1 hv => ?_))
  obtain ⟨rfl, rfl⟩ := hv
  refine J.reti dJ0_charAt_5068e_15 rfl ?_ ⟨rfl, rfl, _, rfl, rfl, rfl⟩
  have := (sByt_ok w hw _ hi1).2
  rw [← this]
  exact pk_nc _
