/-! the law, a call (law.py) -/
set_option maxRecDepth 100000 in
set_option maxHeartbeats 4000000 in
theorem w_L_law_18 {E : Envt} {d bc bs : Nat} {Q : Pst} {h : mS} {I : mI} {L : mL} (hs : SL h) (x3 : Int32)
    (hW : (((((Int32.ofNat (eN E)) - 6) < x3) → Q (some (.int 1)) h I L) ∧ (¬ (((Int32.ofNat (eN E)) - 6) < x3) → (vp_in x3 (eN E) ∧ ((((ex E x3.toNatClampNeg) &&& 63) = 0 → (vp_in (x3 + 1) (eN E) ∧ (vp_in (x3 + 2) (eN E) ∧ (vp_in (x3 + 3) (eN E) ∧ (CT E mX11_house (d + 10) 0 0 [.ref (eB E + 0), .int (ex E (x3 + 1).toNatClampNeg), .int (ex E (x3 + 2).toNatClampNeg), .int (ex E (x3 + 3).toNatClampNeg)] h I L (qi h L fun r3 I2 => (vp_in (x3 + 1) (eN E) ∧ (vp_in (x3 + 2) (eN E) ∧ (vp_in (x3 + 3) (eN E) ∧ (CT E mX12_house (d + 10) 0 0 [.ref (eB E + 83), .int (ex E (x3 + 1).toNatClampNeg), .int (ex E (x3 + 2).toNatClampNeg), .int (ex E (x3 + 3).toNatClampNeg)] h I2 L (qi h L fun r5 I4 => (((r3 = r5) → J E mL_law (d + 11) Q bc bs 18 [some (.ref (eb E)), some (.ref (eB E + 0)), some (.ref (eB E + 83)), some (.int (x3 + 6))] [] h I4 L) ∧ (¬ (r3 = r5) → Q (some (.int 0)) h I4 L))))))))))))) ∧ (((ex E x3.toNatClampNeg) &&& 63) = 1 → (vp_in (x3 + 1) (eN E) ∧ (vp_in (x3 + 2) (eN E) ∧ (vp_in (x3 + 3) (eN E) ∧ (vp_in (x3 + 4) (eN E) ∧ (CT E mX11_person (d + 10) 0 0 [.ref (eB E + 0), .int (ex E (x3 + 1).toNatClampNeg), .int (ex E (x3 + 2).toNatClampNeg), .int (ex E (x3 + 3).toNatClampNeg), .int (ex E (x3 + 4).toNatClampNeg)] h I L (qi h L fun r8 I7 => (vp_in (x3 + 1) (eN E) ∧ (vp_in (x3 + 2) (eN E) ∧ (vp_in (x3 + 3) (eN E) ∧ (vp_in (x3 + 4) (eN E) ∧ (CT E mX12_person (d + 10) 0 0 [.ref (eB E + 83), .int (ex E (x3 + 1).toNatClampNeg), .int (ex E (x3 + 2).toNatClampNeg), .int (ex E (x3 + 3).toNatClampNeg), .int (ex E (x3 + 4).toNatClampNeg)] h I7 L (qi h L fun r10 I9 => (((r8 = r10) → J E mL_law (d + 11) Q bc bs 18 [some (.ref (eb E)), some (.ref (eB E + 0)), some (.ref (eB E + 83)), some (.int (x3 + 6))] [] h I9 L) ∧ (¬ (r8 = r10) → Q (some (.int 0)) h I9 L))))))))))))))) ∧ (((ex E x3.toNatClampNeg) &&& 63) = 2 → (vp_in (x3 + 1) (eN E) ∧ (vp_in (x3 + 2) (eN E) ∧ (vp_in (x3 + 3) (eN E) ∧ (CT E mX11_road (d + 10) 0 0 [.ref (eB E + 0), .int (ex E (x3 + 1).toNatClampNeg), .int (ex E (x3 + 2).toNatClampNeg), .int (ex E (x3 + 3).toNatClampNeg)] h I L (qi h L fun r13 I12 => (vp_in (x3 + 1) (eN E) ∧ (vp_in (x3 + 2) (eN E) ∧ (vp_in (x3 + 3) (eN E) ∧ (CT E mX12_road (d + 10) 0 0 [.ref (eB E + 83), .int (ex E (x3 + 1).toNatClampNeg), .int (ex E (x3 + 2).toNatClampNeg), .int (ex E (x3 + 3).toNatClampNeg)] h I12 L (qi h L fun r15 I14 => (((r13 = r15) → J E mL_law (d + 11) Q bc bs 18 [some (.ref (eb E)), some (.ref (eB E + 0)), some (.ref (eB E + 83)), some (.int (x3 + 6))] [] h I14 L) ∧ (¬ (r13 = r15) → Q (some (.int 0)) h I14 L))))))))))))) ∧ (((ex E x3.toNatClampNeg) &&& 63) = 3 → (vp_in (x3 + 1) (eN E) ∧ (vp_in (x3 + 2) (eN E) ∧ (vp_in (x3 + 3) (eN E) ∧ (CT E mX11_feud (d + 10) 0 0 [.ref (eB E + 0), .int (ex E (x3 + 1).toNatClampNeg), .int (ex E (x3 + 2).toNatClampNeg), .int (bI (¬ ((ex E (x3 + 3).toNatClampNeg) = 0)))] h I L (qi h L fun r19 I18 => (vp_in (x3 + 1) (eN E) ∧ (vp_in (x3 + 2) (eN E) ∧ (vp_in (x3 + 3) (eN E) ∧ (CT E mX12_feud (d + 10) 0 0 [.ref (eB E + 83), .int (ex E (x3 + 1).toNatClampNeg), .int (ex E (x3 + 2).toNatClampNeg), .int (bI (¬ ((ex E (x3 + 3).toNatClampNeg) = 0)))] h I18 L (qi h L fun r22 I21 => (((r19 = r22) → J E mL_law (d + 11) Q bc bs 18 [some (.ref (eb E)), some (.ref (eB E + 0)), some (.ref (eB E + 83)), some (.int (x3 + 6))] [] h I21 L) ∧ (¬ (r19 = r22) → Q (some (.int 0)) h I21 L))))))))))))) ∧ (((ex E x3.toNatClampNeg) &&& 63) = 4 → (vp_in (x3 + 1) (eN E) ∧ (vp_in (x3 + 2) (eN E) ∧ (CT E mX11_harvest (d + 10) 0 0 [.ref (eB E + 0), .int (ex E (x3 + 1).toNatClampNeg), .int (ex E (x3 + 2).toNatClampNeg)] h I L (qi h L fun r25 I24 => (vp_in (x3 + 1) (eN E) ∧ (vp_in (x3 + 2) (eN E) ∧ (CT E mX12_harvest (d + 10) 0 0 [.ref (eB E + 83), .int (ex E (x3 + 1).toNatClampNeg), .int (ex E (x3 + 2).toNatClampNeg)] h I24 L (qi h L fun r27 I26 => (((r25 = r27) → J E mL_law (d + 11) Q bc bs 18 [some (.ref (eb E)), some (.ref (eB E + 0)), some (.ref (eB E + 83)), some (.int (x3 + 6))] [] h I26 L) ∧ (¬ (r25 = r27) → Q (some (.int 0)) h I26 L))))))))))) ∧ (((ex E x3.toNatClampNeg) &&& 63) = 5 → (vp_in (x3 + 1) (eN E) ∧ (vp_in (x3 + 2) (eN E) ∧ (vp_in (x3 + 3) (eN E) ∧ (CT E mX11_parent (d + 10) 0 0 [.ref (eB E + 0), .int (ex E (x3 + 1).toNatClampNeg), .int (ex E (x3 + 2).toNatClampNeg), .int (ex E (x3 + 3).toNatClampNeg)] h I L (qi h L fun r30 I29 => (vp_in (x3 + 1) (eN E) ∧ (vp_in (x3 + 2) (eN E) ∧ (vp_in (x3 + 3) (eN E) ∧ (CT E mX12_parent (d + 10) 0 0 [.ref (eB E + 83), .int (ex E (x3 + 1).toNatClampNeg), .int (ex E (x3 + 2).toNatClampNeg), .int (ex E (x3 + 3).toNatClampNeg)] h I29 L (qi h L fun r32 I31 => (((r30 = r32) → J E mL_law (d + 11) Q bc bs 18 [some (.ref (eb E)), some (.ref (eB E + 0)), some (.ref (eB E + 83)), some (.int (x3 + 6))] [] h I31 L) ∧ (¬ (r30 = r32) → Q (some (.int 0)) h I31 L))))))))))))) ∧ (((ex E x3.toNatClampNeg) &&& 63) = 6 → (vp_in (x3 + 1) (eN E) ∧ (vp_in (x3 + 2) (eN E) ∧ (CT E mX11_heard (d + 10) 0 0 [.ref (eB E + 0), .int (ex E (x3 + 1).toNatClampNeg), .int (ex E (x3 + 2).toNatClampNeg)] h I L (qi h L fun r35 I34 => (vp_in (x3 + 1) (eN E) ∧ (vp_in (x3 + 2) (eN E) ∧ (CT E mX12_heard (d + 10) 0 0 [.ref (eB E + 83), .int (ex E (x3 + 1).toNatClampNeg), .int (ex E (x3 + 2).toNatClampNeg)] h I34 L (qi h L fun r37 I36 => (((r35 = r37) → J E mL_law (d + 11) Q bc bs 18 [some (.ref (eb E)), some (.ref (eB E + 0)), some (.ref (eB E + 83)), some (.int (x3 + 6))] [] h I36 L) ∧ (¬ (r35 = r37) → Q (some (.int 0)) h I36 L))))))))))) ∧ (((ex E x3.toNatClampNeg) &&& 63) = 7 → (vp_in (x3 + 1) (eN E) ∧ (CT E mX11_die (d + 10) 0 0 [.ref (eB E + 0), .int (ex E (x3 + 1).toNatClampNeg)] h I L (qi h L fun r40 I39 => (vp_in (x3 + 1) (eN E) ∧ (CT E mX12_die (d + 10) 0 0 [.ref (eB E + 83), .int (ex E (x3 + 1).toNatClampNeg)] h I39 L (qi h L fun r42 I41 => (((r40 = r42) → J E mL_law (d + 11) Q bc bs 18 [some (.ref (eb E)), some (.ref (eB E + 0)), some (.ref (eB E + 83)), some (.int (x3 + 6))] [] h I41 L) ∧ (¬ (r40 = r42) → Q (some (.int 0)) h I41 L))))))))) ∧ (((ex E x3.toNatClampNeg) &&& 63) = 8 → (CT E mX11_year (d + 10) 0 0 [.ref (eB E + 0)] h I L (qi h L fun r45 I44 => (CT E mX12_year (d + 10) 0 0 [.ref (eB E + 83)] h I44 L (qi h L fun r47 I46 => (((r45 = r47) → J E mL_law (d + 11) Q bc bs 18 [some (.ref (eb E)), some (.ref (eB E + 0)), some (.ref (eB E + 83)), some (.int (x3 + 6))] [] h I46 L) ∧ (¬ (r45 = r47) → Q (some (.int 0)) h I46 L))))))) ∧ (((ex E x3.toNatClampNeg) &&& 63) = 9 → (vp_in (x3 + 1) (eN E) ∧ (vp_in (x3 + 2) (eN E) ∧ (vp_in (x3 + 3) (eN E) ∧ (vp_in (x3 + 4) (eN E) ∧ (CT E mX11_kin (d + 10) 0 0 [.ref (eB E + 0), .int (ex E (x3 + 1).toNatClampNeg), .int (ex E (x3 + 2).toNatClampNeg), .int (ex E (x3 + 3).toNatClampNeg), .int (ex E (x3 + 4).toNatClampNeg)] h I L (qi h L fun r50 I49 => (vp_in (x3 + 1) (eN E) ∧ (vp_in (x3 + 2) (eN E) ∧ (vp_in (x3 + 3) (eN E) ∧ (vp_in (x3 + 4) (eN E) ∧ (CT E mX12_kin (d + 10) 0 0 [.ref (eB E + 83), .int (ex E (x3 + 1).toNatClampNeg), .int (ex E (x3 + 2).toNatClampNeg), .int (ex E (x3 + 3).toNatClampNeg), .int (ex E (x3 + 4).toNatClampNeg)] h I49 L (qi h L fun r52 I51 => (((r50 = r52) → J E mL_law (d + 11) Q bc bs 18 [some (.ref (eb E)), some (.ref (eB E + 0)), some (.ref (eB E + 83)), some (.int (x3 + 6))] [] h I51 L) ∧ (¬ (r50 = r52) → Q (some (.int 0)) h I51 L))))))))))))))) ∧ (((ex E x3.toNatClampNeg) &&& 63) = 10 → (vp_in (x3 + 1) (eN E) ∧ (vp_in (x3 + 2) (eN E) ∧ (vp_in (x3 + 3) (eN E) ∧ (vp_in (x3 + 4) (eN E) ∧ (vp_in (x3 + 5) (eN E) ∧ (CT E mX11_chain (d + 10) 0 0 [.ref (eB E + 0), .int (ex E (x3 + 1).toNatClampNeg), .int (ex E (x3 + 2).toNatClampNeg), .int (ex E (x3 + 3).toNatClampNeg), .int (ex E (x3 + 4).toNatClampNeg), .int (ex E (x3 + 5).toNatClampNeg)] h I L (qi h L fun r55 I54 => (vp_in (x3 + 1) (eN E) ∧ (vp_in (x3 + 2) (eN E) ∧ (vp_in (x3 + 3) (eN E) ∧ (vp_in (x3 + 4) (eN E) ∧ (vp_in (x3 + 5) (eN E) ∧ (CT E mX12_chain (d + 10) 0 0 [.ref (eB E + 83), .int (ex E (x3 + 1).toNatClampNeg), .int (ex E (x3 + 2).toNatClampNeg), .int (ex E (x3 + 3).toNatClampNeg), .int (ex E (x3 + 4).toNatClampNeg), .int (ex E (x3 + 5).toNatClampNeg)] h I54 L (qi h L fun r57 I56 => (((r55 = r57) → J E mL_law (d + 11) Q bc bs 18 [some (.ref (eb E)), some (.ref (eB E + 0)), some (.ref (eB E + 83)), some (.int (x3 + 6))] [] h I56 L) ∧ (¬ (r55 = r57) → Q (some (.int 0)) h I56 L))))))))))))))))) ∧ (((ex E x3.toNatClampNeg) &&& 63) = 11 → (vp_in (x3 + 1) (eN E) ∧ (vp_in (x3 + 2) (eN E) ∧ (CT E mX11_tell (d + 10) 0 0 [.ref (eB E + 0), .int (ex E (x3 + 1).toNatClampNeg), .int (ex E (x3 + 2).toNatClampNeg)] h I L (qi h L fun r60 I59 => (vp_in (x3 + 1) (eN E) ∧ (vp_in (x3 + 2) (eN E) ∧ (CT E mX12_tell (d + 10) 0 0 [.ref (eB E + 83), .int (ex E (x3 + 1).toNatClampNeg), .int (ex E (x3 + 2).toNatClampNeg)] h I59 L (qi h L fun r62 I61 => (((r60 = r62) → J E mL_law (d + 11) Q bc bs 18 [some (.ref (eb E)), some (.ref (eB E + 0)), some (.ref (eB E + 83)), some (.int (x3 + 6))] [] h I61 L) ∧ (¬ (r60 = r62) → Q (some (.int 0)) h I61 L))))))))))) ∧ (((ex E x3.toNatClampNeg) &&& 63) = 12 → (vp_in (x3 + 1) (eN E) ∧ (vp_in (x3 + 2) (eN E) ∧ (CT E mX11_about (d + 10) 0 0 [.ref (eB E + 0), .int (ex E (x3 + 1).toNatClampNeg), .int (ex E (x3 + 2).toNatClampNeg)] h I L (qi h L fun r65 I64 => (vp_in (x3 + 1) (eN E) ∧ (vp_in (x3 + 2) (eN E) ∧ (CT E mX12_about (d + 10) 0 0 [.ref (eB E + 83), .int (ex E (x3 + 1).toNatClampNeg), .int (ex E (x3 + 2).toNatClampNeg)] h I64 L (qi h L fun r67 I66 => (((r65 = r67) → J E mL_law (d + 11) Q bc bs 18 [some (.ref (eb E)), some (.ref (eB E + 0)), some (.ref (eB E + 83)), some (.int (x3 + 6))] [] h I66 L) ∧ (¬ (r65 = r67) → Q (some (.int 0)) h I66 L))))))))))) ∧ (((ex E x3.toNatClampNeg) &&& 63) = 13 → (vp_in (x3 + 1) (eN E) ∧ (vp_in (x3 + 2) (eN E) ∧ (vp_in (x3 + 3) (eN E) ∧ (vp_in (x3 + 4) (eN E) ∧ (vp_in (x3 + 5) (eN E) ∧ (CT E mX11_feed (d + 10) 0 0 [.ref (eB E + 0), .int (ex E (x3 + 1).toNatClampNeg), .int (ex E (x3 + 2).toNatClampNeg), .int (ex E (x3 + 3).toNatClampNeg), .int (ex E (x3 + 4).toNatClampNeg), .int (ex E (x3 + 5).toNatClampNeg)] h I L (qi h L fun r70 I69 => (vp_in (x3 + 1) (eN E) ∧ (vp_in (x3 + 2) (eN E) ∧ (vp_in (x3 + 3) (eN E) ∧ (vp_in (x3 + 4) (eN E) ∧ (vp_in (x3 + 5) (eN E) ∧ (CT E mX12_feed (d + 10) 0 0 [.ref (eB E + 83), .int (ex E (x3 + 1).toNatClampNeg), .int (ex E (x3 + 2).toNatClampNeg), .int (ex E (x3 + 3).toNatClampNeg), .int (ex E (x3 + 4).toNatClampNeg), .int (ex E (x3 + 5).toNatClampNeg)] h I69 L (qi h L fun r72 I71 => (((r70 = r72) → J E mL_law (d + 11) Q bc bs 18 [some (.ref (eb E)), some (.ref (eB E + 0)), some (.ref (eB E + 83)), some (.int (x3 + 6))] [] h I71 L) ∧ (¬ (r70 = r72) → Q (some (.int 0)) h I71 L))))))))))))))))) ∧ (((ex E x3.toNatClampNeg) &&& 63) = 14 → (vp_in (x3 + 1) (eN E) ∧ (CT E mX11_end (d + 10) 0 0 [.ref (eB E + 0), .int (ex E (x3 + 1).toNatClampNeg)] h I L (qi h L fun r75 I74 => (vp_in (x3 + 1) (eN E) ∧ (CT E mX12_end (d + 10) 0 0 [.ref (eB E + 83), .int (ex E (x3 + 1).toNatClampNeg)] h I74 L (qi h L fun r77 I76 => (((r75 = r77) → J E mL_law (d + 11) Q bc bs 18 [some (.ref (eb E)), some (.ref (eB E + 0)), some (.ref (eB E + 83)), some (.int (x3 + 6))] [] h I76 L) ∧ (¬ (r75 = r77) → Q (some (.int 0)) h I76 L))))))))) ∧ (((ex E x3.toNatClampNeg) &&& 63) = 15 → (vp_in (x3 + 1) (eN E) ∧ (CT E mX11_text (d + 10) 8 400 [.ref (eB E + 0), .int (ex E (x3 + 1).toNatClampNeg)] h I L (gi fun r83 h79 I80 L81 => SL h79 ∧ (vp_in (x3 + 1) (eN E) ∧ (CT E mX12_text (d + 10) 0 0 [.ref (eB E + 83), .int (ex E (x3 + 1).toNatClampNeg)] h79 I80 L81 (qiL h79 fun r86 I84 L85 => (((r83 = r86) → J E mL_law (d + 11) Q bc bs 18 [some (.ref (eb E)), some (.ref (eB E + 0)), some (.ref (eB E + 83)), some (.int (x3 + 6))] [] h79 I84 L85) ∧ (¬ (r83 = r86) → Q (some (.int 0)) h79 I84 L85))))))))) ∧ (((ex E x3.toNatClampNeg) &&& 63) = 16 → (vp_in (x3 + 1) (eN E) ∧ (CT E mX11_fault (d + 10) 0 0 [.ref (eB E + 0), .int (ex E (x3 + 1).toNatClampNeg)] h I L (qi h L fun r89 I88 => (vp_in (x3 + 1) (eN E) ∧ (CT E mX12_fault (d + 10) 0 0 [.ref (eB E + 83), .int (ex E (x3 + 1).toNatClampNeg)] h I88 L (qi h L fun r91 I90 => (((r89 = r91) → J E mL_law (d + 11) Q bc bs 18 [some (.ref (eb E)), some (.ref (eB E + 0)), some (.ref (eB E + 83)), some (.int (x3 + 6))] [] h I90 L) ∧ (¬ (r89 = r91) → Q (some (.int 0)) h I90 L))))))))) ∧ (((ex E x3.toNatClampNeg) &&& 63) = 17 → (vp_in (x3 + 1) (eN E) ∧ (vp_in (x3 + 2) (eN E) ∧ (vp_in (x3 + 3) (eN E) ∧ (vp_in (x3 + 4) (eN E) ∧ (CT E mX11_read (d + 10) 0 0 [.ref (eB E + 0), .int (ex E (x3 + 1).toNatClampNeg), .int (ex E (x3 + 2).toNatClampNeg), .int (ex E (x3 + 3).toNatClampNeg), .int (ex E (x3 + 4).toNatClampNeg)] h I L (qi h L fun r94 I93 => (vp_in (x3 + 1) (eN E) ∧ (vp_in (x3 + 2) (eN E) ∧ (vp_in (x3 + 3) (eN E) ∧ (vp_in (x3 + 4) (eN E) ∧ (CT E mX12_read (d + 10) 0 0 [.ref (eB E + 83), .int (ex E (x3 + 1).toNatClampNeg), .int (ex E (x3 + 2).toNatClampNeg), .int (ex E (x3 + 3).toNatClampNeg), .int (ex E (x3 + 4).toNatClampNeg)] h I93 L (qi h L fun r96 I95 => (((r94 = r96) → J E mL_law (d + 11) Q bc bs 18 [some (.ref (eb E)), some (.ref (eB E + 0)), some (.ref (eB E + 83)), some (.int (x3 + 6))] [] h I95 L) ∧ (¬ (r94 = r96) → Q (some (.int 0)) h I95 L))))))))))))))) ∧ (((ex E x3.toNatClampNeg) &&& 63) = 18 → (vp_in (x3 + 1) (eN E) ∧ (vp_in (x3 + 2) (eN E) ∧ (CT E mX11_may (d + 10) 0 0 [.ref (eB E + 0), .int (ex E (x3 + 1).toNatClampNeg), .int (ex E (x3 + 2).toNatClampNeg)] h I L (qi h L fun r99 I98 => (vp_in (x3 + 1) (eN E) ∧ (vp_in (x3 + 2) (eN E) ∧ (CT E mX12_may (d + 10) 0 0 [.ref (eB E + 83), .int (ex E (x3 + 1).toNatClampNeg), .int (ex E (x3 + 2).toNatClampNeg)] h I98 L (qi h L fun r101 I100 => (((r99 = r101) → J E mL_law (d + 11) Q bc bs 18 [some (.ref (eb E)), some (.ref (eB E + 0)), some (.ref (eB E + 83)), some (.int (x3 + 6))] [] h I100 L) ∧ (¬ (r99 = r101) → Q (some (.int 0)) h I100 L))))))))))) ∧ (((ex E x3.toNatClampNeg) &&& 63) = 19 → (vp_in (x3 + 1) (eN E) ∧ (vp_in (x3 + 2) (eN E) ∧ (CT E mX11_liking (d + 10) 0 0 [.ref (eB E + 0), .int (ex E (x3 + 1).toNatClampNeg), .int (ex E (x3 + 2).toNatClampNeg)] h I L (qi h L fun r104 I103 => (vp_in (x3 + 1) (eN E) ∧ (vp_in (x3 + 2) (eN E) ∧ (CT E mX12_liking (d + 10) 0 0 [.ref (eB E + 83), .int (ex E (x3 + 1).toNatClampNeg), .int (ex E (x3 + 2).toNatClampNeg)] h I103 L (qi h L fun r106 I105 => (((r104 = r106) → J E mL_law (d + 11) Q bc bs 18 [some (.ref (eb E)), some (.ref (eB E + 0)), some (.ref (eB E + 83)), some (.int (x3 + 6))] [] h I105 L) ∧ (¬ (r104 = r106) → Q (some (.int 0)) h I105 L))))))))))) ∧ (((ex E x3.toNatClampNeg) &&& 63) = 20 → (vp_in (x3 + 1) (eN E) ∧ (vp_in (x3 + 2) (eN E) ∧ (CT E mX11_ask (d + 10) 0 0 [.ref (eB E + 0), .int (ex E (x3 + 1).toNatClampNeg), .int (ex E (x3 + 2).toNatClampNeg)] h I L (qi h L fun r109 I108 => (vp_in (x3 + 1) (eN E) ∧ (vp_in (x3 + 2) (eN E) ∧ (CT E mX12_ask (d + 10) 0 0 [.ref (eB E + 83), .int (ex E (x3 + 1).toNatClampNeg), .int (ex E (x3 + 2).toNatClampNeg)] h I108 L (qi h L fun r111 I110 => (((r109 = r111) → J E mL_law (d + 11) Q bc bs 18 [some (.ref (eb E)), some (.ref (eB E + 0)), some (.ref (eB E + 83)), some (.int (x3 + 6))] [] h I110 L) ∧ (¬ (r109 = r111) → Q (some (.int 0)) h I110 L))))))))))) ∧ (((ex E x3.toNatClampNeg) &&& 63) = 21 → (vp_in (x3 + 1) (eN E) ∧ (CT E mX11_promise (d + 10) 0 0 [.ref (eB E + 0), .int (ex E (x3 + 1).toNatClampNeg)] h I L (qi h L fun r114 I113 => (vp_in (x3 + 1) (eN E) ∧ (CT E mX12_promise (d + 10) 0 0 [.ref (eB E + 83), .int (ex E (x3 + 1).toNatClampNeg)] h I113 L (qi h L fun r116 I115 => (((r114 = r116) → J E mL_law (d + 11) Q bc bs 18 [some (.ref (eb E)), some (.ref (eB E + 0)), some (.ref (eB E + 83)), some (.int (x3 + 6))] [] h I115 L) ∧ (¬ (r114 = r116) → Q (some (.int 0)) h I115 L))))))))) ∧ (((ex E x3.toNatClampNeg) &&& 63) = 22 → (vp_in (x3 + 1) (eN E) ∧ (CT E mX11_wed (d + 10) 0 0 [.ref (eB E + 0), .int (ex E (x3 + 1).toNatClampNeg)] h I L (gi fun r122 h118 I119 L120 => SL h118 ∧ (vp_in (x3 + 1) (eN E) ∧ (CT E mX12_wed (d + 10) 0 0 [.ref (eB E + 83), .int (ex E (x3 + 1).toNatClampNeg)] h118 I119 L120 (qi h118 L120 fun r124 I123 => (((r122 = r124) → J E mL_law (d + 11) Q bc bs 18 [some (.ref (eb E)), some (.ref (eB E + 0)), some (.ref (eB E + 83)), some (.int (x3 + 6))] [] h118 I123 L120) ∧ (¬ (r122 = r124) → Q (some (.int 0)) h118 I123 L120))))))))) ∧ (((ex E x3.toNatClampNeg) &&& 63) = 23 → (vp_in (x3 + 1) (eN E) ∧ (vp_in (x3 + 2) (eN E) ∧ (CT E mX11_breaks (d + 10) 0 0 [.ref (eB E + 0), .int (ex E (x3 + 1).toNatClampNeg), .int (bI (¬ ((ex E (x3 + 2).toNatClampNeg) = 0)))] h I L (qi h L fun r128 I127 => (vp_in (x3 + 1) (eN E) ∧ (vp_in (x3 + 2) (eN E) ∧ (CT E mX12_breaks (d + 10) 0 0 [.ref (eB E + 83), .int (ex E (x3 + 1).toNatClampNeg), .int (bI (¬ ((ex E (x3 + 2).toNatClampNeg) = 0)))] h I127 L (qi h L fun r131 I130 => (((r128 = r131) → J E mL_law (d + 11) Q bc bs 18 [some (.ref (eb E)), some (.ref (eB E + 0)), some (.ref (eB E + 83)), some (.int (x3 + 6))] [] h I130 L) ∧ (¬ (r128 = r131) → Q (some (.int 0)) h I130 L))))))))))) ∧ (((ex E x3.toNatClampNeg) &&& 63) = 24 → (vp_in (x3 + 1) (eN E) ∧ (vp_in (x3 + 2) (eN E) ∧ (CT E mX11_match (d + 10) 0 0 [.ref (eB E + 0), .int (ex E (x3 + 1).toNatClampNeg), .int (ex E (x3 + 2).toNatClampNeg)] h I L (qi h L fun r134 I133 => (vp_in (x3 + 1) (eN E) ∧ (vp_in (x3 + 2) (eN E) ∧ (CT E mX12_match (d + 10) 0 0 [.ref (eB E + 83), .int (ex E (x3 + 1).toNatClampNeg), .int (ex E (x3 + 2).toNatClampNeg)] h I133 L (qi h L fun r136 I135 => (((r134 = r136) → J E mL_law (d + 11) Q bc bs 18 [some (.ref (eb E)), some (.ref (eB E + 0)), some (.ref (eB E + 83)), some (.int (x3 + 6))] [] h I135 L) ∧ (¬ (r134 = r136) → Q (some (.int 0)) h I135 L))))))))))) ∧ (((ex E x3.toNatClampNeg) &&& 63) = 25 → (vp_in (x3 + 1) (eN E) ∧ (CT E mX11_late (d + 10) 0 0 [.ref (eB E + 0), .int (ex E (x3 + 1).toNatClampNeg)] h I L (qi h L fun r139 I138 => (vp_in (x3 + 1) (eN E) ∧ (CT E mX12_late (d + 10) 0 0 [.ref (eB E + 83), .int (ex E (x3 + 1).toNatClampNeg)] h I138 L (qi h L fun r141 I140 => (((r139 = r141) → J E mL_law (d + 11) Q bc bs 18 [some (.ref (eb E)), some (.ref (eB E + 0)), some (.ref (eB E + 83)), some (.int (x3 + 6))] [] h I140 L) ∧ (¬ (r139 = r141) → Q (some (.int 0)) h I140 L))))))))) ∧ (((ex E x3.toNatClampNeg) &&& 63) = 26 → (vp_in (x3 + 1) (eN E) ∧ (CT E mX11_parts (d + 10) 0 0 [.ref (eB E + 0), .int (ex E (x3 + 1).toNatClampNeg)] h I L (qi h L fun r144 I143 => (vp_in (x3 + 1) (eN E) ∧ (CT E mX12_parts (d + 10) 0 0 [.ref (eB E + 83), .int (ex E (x3 + 1).toNatClampNeg)] h I143 L (qi h L fun r146 I145 => (((r144 = r146) → J E mL_law (d + 11) Q bc bs 18 [some (.ref (eb E)), some (.ref (eB E + 0)), some (.ref (eB E + 83)), some (.int (x3 + 6))] [] h I145 L) ∧ (¬ (r144 = r146) → Q (some (.int 0)) h I145 L))))))))) ∧ (((ex E x3.toNatClampNeg) &&& 63) = 27 → (vp_in (x3 + 1) (eN E) ∧ (CT E mX11_best (d + 10) 0 0 [.ref (eB E + 0), .int (ex E (x3 + 1).toNatClampNeg)] h I L (qi h L fun r149 I148 => (vp_in (x3 + 1) (eN E) ∧ (CT E mX12_best (d + 10) 0 0 [.ref (eB E + 83), .int (ex E (x3 + 1).toNatClampNeg)] h I148 L (qiL h fun r152 I150 L151 => (((r149 = r152) → J E mL_law (d + 11) Q bc bs 18 [some (.ref (eb E)), some (.ref (eB E + 0)), some (.ref (eB E + 83)), some (.int (x3 + 6))] [] h I150 L151) ∧ (¬ (r149 = r152) → Q (some (.int 0)) h I150 L151))))))))) ∧ (((ex E x3.toNatClampNeg) &&& 63) = 28 → (vp_in (x3 + 1) (eN E) ∧ (CT E mX11_bestFor (d + 10) 0 0 [.ref (eB E + 0), .int (ex E (x3 + 1).toNatClampNeg)] h I L (qi h L fun r155 I154 => (vp_in (x3 + 1) (eN E) ∧ (CT E mX12_bestFor (d + 10) 0 0 [.ref (eB E + 83), .int (ex E (x3 + 1).toNatClampNeg)] h I154 L (qiL h fun r158 I156 L157 => (((r155 = r158) → J E mL_law (d + 11) Q bc bs 18 [some (.ref (eb E)), some (.ref (eB E + 0)), some (.ref (eB E + 83)), some (.int (x3 + 6))] [] h I156 L157) ∧ (¬ (r155 = r158) → Q (some (.int 0)) h I156 L157))))))))) ∧ (((ex E x3.toNatClampNeg) &&& 63) = 29 → (vp_in (x3 + 1) (eN E) ∧ (CT E mX11_stable (d + 10) 0 0 [.ref (eB E + 0), .int (ex E (x3 + 1).toNatClampNeg)] h I L (qi h L fun r161 I160 => (vp_in (x3 + 1) (eN E) ∧ (CT E mX12_stable (d + 10) 0 0 [.ref (eB E + 83), .int (ex E (x3 + 1).toNatClampNeg)] h I160 L (qi h L fun r163 I162 => (((r161 = r163) → J E mL_law (d + 11) Q bc bs 18 [some (.ref (eb E)), some (.ref (eB E + 0)), some (.ref (eB E + 83)), some (.int (x3 + 6))] [] h I162 L) ∧ (¬ (r161 = r163) → Q (some (.int 0)) h I162 L))))))))) ∧ (((ex E x3.toNatClampNeg) &&& 63) = 30 → (vp_in (x3 + 1) (eN E) ∧ (CT E mX11_ring (d + 10) 0 0 [.ref (eB E + 0), .int (ex E (x3 + 1).toNatClampNeg)] h I L (qi h L fun r166 I165 => (vp_in (x3 + 1) (eN E) ∧ (CT E mX12_ring (d + 10) 0 0 [.ref (eB E + 83), .int (ex E (x3 + 1).toNatClampNeg)] h I165 L (qi h L fun r168 I167 => (((r166 = r168) → J E mL_law (d + 11) Q bc bs 18 [some (.ref (eb E)), some (.ref (eB E + 0)), some (.ref (eB E + 83)), some (.int (x3 + 6))] [] h I167 L) ∧ (¬ (r166 = r168) → Q (some (.int 0)) h I167 L))))))))) ∧ (((ex E x3.toNatClampNeg) &&& 63) = 31 → (vp_in (x3 + 1) (eN E) ∧ (vp_in (x3 + 2) (eN E) ∧ (CT E mX11_ringed (d + 10) 0 0 [.ref (eB E + 0), .int (ex E (x3 + 1).toNatClampNeg), .int (ex E (x3 + 2).toNatClampNeg)] h I L (qi h L fun r171 I170 => (vp_in (x3 + 1) (eN E) ∧ (vp_in (x3 + 2) (eN E) ∧ (CT E mX12_ringed (d + 10) 0 0 [.ref (eB E + 83), .int (ex E (x3 + 1).toNatClampNeg), .int (ex E (x3 + 2).toNatClampNeg)] h I170 L (qi h L fun r173 I172 => (((r171 = r173) → J E mL_law (d + 11) Q bc bs 18 [some (.ref (eb E)), some (.ref (eB E + 0)), some (.ref (eB E + 83)), some (.int (x3 + 6))] [] h I172 L) ∧ (¬ (r171 = r173) → Q (some (.int 0)) h I172 L))))))))))) ∧ (((ex E x3.toNatClampNeg) &&& 63) = 32 → (vp_in (x3 + 1) (eN E) ∧ (CT E mX11_count (d + 10) 0 0 [.ref (eB E + 0), .int (ex E (x3 + 1).toNatClampNeg)] h I L (qi h L fun r176 I175 => (vp_in (x3 + 1) (eN E) ∧ (CT E mX12_count (d + 10) 0 0 [.ref (eB E + 83), .int (ex E (x3 + 1).toNatClampNeg)] h I175 L (qi h L fun r178 I177 => (((r176 = r178) → J E mL_law (d + 11) Q bc bs 18 [some (.ref (eb E)), some (.ref (eB E + 0)), some (.ref (eB E + 83)), some (.int (x3 + 6))] [] h I177 L) ∧ (¬ (r176 = r178) → Q (some (.int 0)) h I177 L))))))))) ∧ (((ex E x3.toNatClampNeg) &&& 63) = 33 → (vp_in (x3 + 1) (eN E) ∧ (CT E mX11_image (d + 10) 45 1692 [.ref (eB E + 0), .int (ex E (x3 + 1).toNatClampNeg)] h I L (gi fun r184 h180 I181 L182 => SL h180 ∧ (vp_in (x3 + 1) (eN E) ∧ (CT E mX12_image (d + 10) 0 0 [.ref (eB E + 83), .int (ex E (x3 + 1).toNatClampNeg)] h180 I181 L182 (qi h180 L182 fun r186 I185 => (((r184 = r186) → J E mL_law (d + 11) Q bc bs 18 [some (.ref (eb E)), some (.ref (eB E + 0)), some (.ref (eB E + 83)), some (.int (x3 + 6))] [] h180 I185 L182) ∧ (¬ (r184 = r186) → Q (some (.int 0)) h180 I185 L182))))))))) ∧ (((ex E x3.toNatClampNeg) &&& 63) = 34 → (vp_in (x3 + 1) (eN E) ∧ (CT E mX11_again (d + 10) 0 0 [.ref (eB E + 0), .int (ex E (x3 + 1).toNatClampNeg)] h I L (gi fun r192 h188 I189 L190 => SL h188 ∧ (vp_in (x3 + 1) (eN E) ∧ (CT E mX12_again (d + 10) 0 0 [.ref (eB E + 83), .int (ex E (x3 + 1).toNatClampNeg)] h188 I189 L190 (qi h188 L190 fun r194 I193 => (((r192 = r194) → J E mL_law (d + 11) Q bc bs 18 [some (.ref (eb E)), some (.ref (eB E + 0)), some (.ref (eB E + 83)), some (.int (x3 + 6))] [] h188 I193 L190) ∧ (¬ (r192 = r194) → Q (some (.int 0)) h188 I193 L190))))))))) ∧ (¬ ((ex E x3.toNatClampNeg) &&& 63) = 0 → ¬ ((ex E x3.toNatClampNeg) &&& 63) = 1 → ¬ ((ex E x3.toNatClampNeg) &&& 63) = 2 → ¬ ((ex E x3.toNatClampNeg) &&& 63) = 3 → ¬ ((ex E x3.toNatClampNeg) &&& 63) = 4 → ¬ ((ex E x3.toNatClampNeg) &&& 63) = 5 → ¬ ((ex E x3.toNatClampNeg) &&& 63) = 6 → ¬ ((ex E x3.toNatClampNeg) &&& 63) = 7 → ¬ ((ex E x3.toNatClampNeg) &&& 63) = 8 → ¬ ((ex E x3.toNatClampNeg) &&& 63) = 9 → ¬ ((ex E x3.toNatClampNeg) &&& 63) = 10 → ¬ ((ex E x3.toNatClampNeg) &&& 63) = 11 → ¬ ((ex E x3.toNatClampNeg) &&& 63) = 12 → ¬ ((ex E x3.toNatClampNeg) &&& 63) = 13 → ¬ ((ex E x3.toNatClampNeg) &&& 63) = 14 → ¬ ((ex E x3.toNatClampNeg) &&& 63) = 15 → ¬ ((ex E x3.toNatClampNeg) &&& 63) = 16 → ¬ ((ex E x3.toNatClampNeg) &&& 63) = 17 → ¬ ((ex E x3.toNatClampNeg) &&& 63) = 18 → ¬ ((ex E x3.toNatClampNeg) &&& 63) = 19 → ¬ ((ex E x3.toNatClampNeg) &&& 63) = 20 → ¬ ((ex E x3.toNatClampNeg) &&& 63) = 21 → ¬ ((ex E x3.toNatClampNeg) &&& 63) = 22 → ¬ ((ex E x3.toNatClampNeg) &&& 63) = 23 → ¬ ((ex E x3.toNatClampNeg) &&& 63) = 24 → ¬ ((ex E x3.toNatClampNeg) &&& 63) = 25 → ¬ ((ex E x3.toNatClampNeg) &&& 63) = 26 → ¬ ((ex E x3.toNatClampNeg) &&& 63) = 27 → ¬ ((ex E x3.toNatClampNeg) &&& 63) = 28 → ¬ ((ex E x3.toNatClampNeg) &&& 63) = 29 → ¬ ((ex E x3.toNatClampNeg) &&& 63) = 30 → ¬ ((ex E x3.toNatClampNeg) &&& 63) = 31 → ¬ ((ex E x3.toNatClampNeg) &&& 63) = 32 → ¬ ((ex E x3.toNatClampNeg) &&& 63) = 33 → ¬ ((ex E x3.toNatClampNeg) &&& 63) = 34 → J E mL_law (d + 11) Q bc bs 18 [some (.ref (eb E)), some (.ref (eB E + 0)), some (.ref (eB E + 83)), some (.int (x3 + 6))] [] h I L)))))) :
    J E mL_law (d + 11) Q (bc + 50) (bs + 2000) 18 [some (.ref (eb E)), some (.ref (eB E + 0)), some (.ref (eB E + 83)), some (.int x3)] [] h I L := by
  refine J.iload_n dL_law_18 rfl rfl ?_
  refine J.aload_n dL_law_19 rfl rfl ?_
  refine J.slen (v := Int32.ofNat (eN E)) dL_law_20 rfl ?_
  refine J.bipush (v := 6) dL_law_21 (by decide) ?_
  refine J.isub dL_law_23 ?_
  refine J.ic_gt 1371 dL_law_24 (by decide) (fun hc1 => ?_) (fun hc1 => ?_)
  · have hW := hW.1 hc1
    refine J.iconst (v := 1) dL_law_1371 (by decide) ?_
    exact J.reti dL_law_1372 rfl (bz_nar (Or.inr rfl)) hW
  · have hW := hW.2 hc1
    refine J.aload_n dL_law_27 rfl rfl ?_
    refine J.iload_n dL_law_28 rfl rfl ?_
    obtain ⟨hb, hW⟩ := hW
    refine J.sld (x := ex E x3.toNatClampNeg) dL_law_29 hb rfl ?_
    refine J.bipush (v := 63) dL_law_30 (by decide) ?_
    refine J.iand dL_law_32 ?_
    by_cases hk196 : ((ex E x3.toNatClampNeg) &&& 63) = 0
    · have hW := hW.1 hk196
      refine J.tableIn (off := 155) 188 dL_law_33 (by rw [hk196] <;> decide) (by rw [hk196] <;> decide) (by rw [hk196] <;> rfl) (by decide) ?_
      refine J.aload_n dL_law_188 rfl rfl ?_
      refine J.aload_n dL_law_189 rfl rfl ?_
      refine J.iload_n dL_law_190 rfl rfl ?_
      refine J.iconst (v := 1) dL_law_191 (by decide) ?_
      refine J.iadd dL_law_192 ?_
      obtain ⟨hb, hW⟩ := hW
      refine J.sld (x := ex E (x3 + 1).toNatClampNeg) dL_law_193 hb rfl ?_
      refine J.aload_n dL_law_194 rfl rfl ?_
      refine J.iload_n dL_law_195 rfl rfl ?_
      refine J.iconst (v := 2) dL_law_196 (by decide) ?_
      refine J.iadd dL_law_197 ?_
      obtain ⟨hb, hW⟩ := hW
      refine J.sld (x := ex E (x3 + 2).toNatClampNeg) dL_law_198 hb rfl ?_
      refine J.aload_n dL_law_199 rfl rfl ?_
      refine J.iload_n dL_law_200 rfl rfl ?_
      refine J.iconst (v := 3) dL_law_201 (by decide) ?_
      refine J.iadd dL_law_202 ?_
      obtain ⟨hb, hW⟩ := hW
      refine J.sld (x := ex E (x3 + 3).toNatClampNeg) dL_law_203 hb rfl ?_
      refine J.less (bc' := bc + 0) (bs' := bs + 0) ?_ (by omega) (by omega)
      refine J.callV (M' := mX11_house) (index := 13) (bc := bc) (bs := bs) (bc' := 0) (bs' := 0) (st := []) [.int (ex E (x3 + 1).toNatClampNeg), .int (ex E (x3 + 2).toNatClampNeg), .int (ex E (x3 + 3).toNatClampNeg)] ml_L_13 cv_X11_house dL_law_204 (lt0 hs) (kk0 hs) (by decide) rfl rfl rfl rfl (Nat.le_of_ble_eq_true rfl) (kqi hW (fun r3 I2 hW => ?_))
      refine J.aload_n dL_law_207 rfl rfl ?_
      refine J.aload_n dL_law_208 rfl rfl ?_
      refine J.iload_n dL_law_209 rfl rfl ?_
      refine J.iconst (v := 1) dL_law_210 (by decide) ?_
      refine J.iadd dL_law_211 ?_
      obtain ⟨hb, hW⟩ := hW
      refine J.sld (x := ex E (x3 + 1).toNatClampNeg) dL_law_212 hb rfl ?_
      refine J.aload_n dL_law_213 rfl rfl ?_
      refine J.iload_n dL_law_214 rfl rfl ?_
      refine J.iconst (v := 2) dL_law_215 (by decide) ?_
      refine J.iadd dL_law_216 ?_
      obtain ⟨hb, hW⟩ := hW
      refine J.sld (x := ex E (x3 + 2).toNatClampNeg) dL_law_217 hb rfl ?_
      refine J.aload_n dL_law_218 rfl rfl ?_
      refine J.iload_n dL_law_219 rfl rfl ?_
      refine J.iconst (v := 3) dL_law_220 (by decide) ?_
      refine J.iadd dL_law_221 ?_
      obtain ⟨hb, hW⟩ := hW
      refine J.sld (x := ex E (x3 + 3).toNatClampNeg) dL_law_222 hb rfl ?_
      refine J.callV (M' := mX12_house) (index := 17) (bc := bc) (bs := bs) (bc' := 0) (bs' := 0) (st := [.int r3]) [.int (ex E (x3 + 1).toNatClampNeg), .int (ex E (x3 + 2).toNatClampNeg), .int (ex E (x3 + 3).toNatClampNeg)] ml_L_17 cv_X12_house dL_law_223 (lt83 hs) (kk83 hs) (by decide) rfl rfl rfl rfl (Nat.le_of_ble_eq_true rfl) (kqi hW (fun r5 I4 hW => ?_))
      refine J.ic_eq 1365 dL_law_226 (by decide) (fun hc6 => ?_) (fun hc6 => ?_)
      · have hW := hW.1 hc6
        refine J.iinc (v := x3 + 6) (vs' := [some (.ref (eb E)), some (.ref (eB E + 0)), some (.ref (eB E + 83)), some (.int (x3 + 6))]) dL_law_1365 rfl (by rfl) (by decide) rfl ?_
        refine J.goto 18 dL_law_1368 (by decide) ?_
        exact J.less (bc' := bc) (bs' := bs) hW (by omega) (by omega)
      · have hW := hW.2 hc6
        refine J.iconst (v := 0) dL_law_229 (by decide) ?_
        exact J.reti dL_law_230 rfl (bz_nar (Or.inl rfl)) hW
    by_cases hk197 : ((ex E x3.toNatClampNeg) &&& 63) = 1
    · have hW := hW.2.1 hk197
      refine J.tableIn (off := 198) 231 dL_law_33 (by rw [hk197] <;> decide) (by rw [hk197] <;> decide) (by rw [hk197] <;> rfl) (by decide) ?_
      refine J.aload_n dL_law_231 rfl rfl ?_
      refine J.aload_n dL_law_232 rfl rfl ?_
      refine J.iload_n dL_law_233 rfl rfl ?_
      refine J.iconst (v := 1) dL_law_234 (by decide) ?_
      refine J.iadd dL_law_235 ?_
      obtain ⟨hb, hW⟩ := hW
      refine J.sld (x := ex E (x3 + 1).toNatClampNeg) dL_law_236 hb rfl ?_
      refine J.aload_n dL_law_237 rfl rfl ?_
      refine J.iload_n dL_law_238 rfl rfl ?_
      refine J.iconst (v := 2) dL_law_239 (by decide) ?_
      refine J.iadd dL_law_240 ?_
      obtain ⟨hb, hW⟩ := hW
      refine J.sld (x := ex E (x3 + 2).toNatClampNeg) dL_law_241 hb rfl ?_
      refine J.aload_n dL_law_242 rfl rfl ?_
      refine J.iload_n dL_law_243 rfl rfl ?_
      refine J.iconst (v := 3) dL_law_244 (by decide) ?_
      refine J.iadd dL_law_245 ?_
      obtain ⟨hb, hW⟩ := hW
      refine J.sld (x := ex E (x3 + 3).toNatClampNeg) dL_law_246 hb rfl ?_
      refine J.aload_n dL_law_247 rfl rfl ?_
      refine J.iload_n dL_law_248 rfl rfl ?_
      refine J.iconst (v := 4) dL_law_249 (by decide) ?_
      refine J.iadd dL_law_250 ?_
      obtain ⟨hb, hW⟩ := hW
      refine J.sld (x := ex E (x3 + 4).toNatClampNeg) dL_law_251 hb rfl ?_
      refine J.less (bc' := bc + 0) (bs' := bs + 0) ?_ (by omega) (by omega)
      refine J.callV (M' := mX11_person) (index := 18) (bc := bc) (bs := bs) (bc' := 0) (bs' := 0) (st := []) [.int (ex E (x3 + 1).toNatClampNeg), .int (ex E (x3 + 2).toNatClampNeg), .int (ex E (x3 + 3).toNatClampNeg), .int (ex E (x3 + 4).toNatClampNeg)] ml_L_18 cv_X11_person dL_law_252 (lt0 hs) (kk0 hs) (by decide) rfl rfl rfl rfl (Nat.le_of_ble_eq_true rfl) (kqi hW (fun r8 I7 hW => ?_))
      refine J.aload_n dL_law_255 rfl rfl ?_
      refine J.aload_n dL_law_256 rfl rfl ?_
      refine J.iload_n dL_law_257 rfl rfl ?_
      refine J.iconst (v := 1) dL_law_258 (by decide) ?_
      refine J.iadd dL_law_259 ?_
      obtain ⟨hb, hW⟩ := hW
      refine J.sld (x := ex E (x3 + 1).toNatClampNeg) dL_law_260 hb rfl ?_
      refine J.aload_n dL_law_261 rfl rfl ?_
      refine J.iload_n dL_law_262 rfl rfl ?_
      refine J.iconst (v := 2) dL_law_263 (by decide) ?_
      refine J.iadd dL_law_264 ?_
      obtain ⟨hb, hW⟩ := hW
      refine J.sld (x := ex E (x3 + 2).toNatClampNeg) dL_law_265 hb rfl ?_
      refine J.aload_n dL_law_266 rfl rfl ?_
      refine J.iload_n dL_law_267 rfl rfl ?_
      refine J.iconst (v := 3) dL_law_268 (by decide) ?_
      refine J.iadd dL_law_269 ?_
      obtain ⟨hb, hW⟩ := hW
      refine J.sld (x := ex E (x3 + 3).toNatClampNeg) dL_law_270 hb rfl ?_
      refine J.aload_n dL_law_271 rfl rfl ?_
      refine J.iload_n dL_law_272 rfl rfl ?_
      refine J.iconst (v := 4) dL_law_273 (by decide) ?_
      refine J.iadd dL_law_274 ?_
      obtain ⟨hb, hW⟩ := hW
      refine J.sld (x := ex E (x3 + 4).toNatClampNeg) dL_law_275 hb rfl ?_
      refine J.callV (M' := mX12_person) (index := 22) (bc := bc) (bs := bs) (bc' := 0) (bs' := 0) (st := [.int r8]) [.int (ex E (x3 + 1).toNatClampNeg), .int (ex E (x3 + 2).toNatClampNeg), .int (ex E (x3 + 3).toNatClampNeg), .int (ex E (x3 + 4).toNatClampNeg)] ml_L_22 cv_X12_person dL_law_276 (lt83 hs) (kk83 hs) (by decide) rfl rfl rfl rfl (Nat.le_of_ble_eq_true rfl) (kqi hW (fun r10 I9 hW => ?_))
      refine J.ic_eq 1365 dL_law_279 (by decide) (fun hc11 => ?_) (fun hc11 => ?_)
      · have hW := hW.1 hc11
        refine J.iinc (v := x3 + 6) (vs' := [some (.ref (eb E)), some (.ref (eB E + 0)), some (.ref (eB E + 83)), some (.int (x3 + 6))]) dL_law_1365 rfl (by rfl) (by decide) rfl ?_
        refine J.goto 18 dL_law_1368 (by decide) ?_
        exact J.less (bc' := bc) (bs' := bs) hW (by omega) (by omega)
      · have hW := hW.2 hc11
        refine J.iconst (v := 0) dL_law_282 (by decide) ?_
        exact J.reti dL_law_283 rfl (bz_nar (Or.inl rfl)) hW
    by_cases hk198 : ((ex E x3.toNatClampNeg) &&& 63) = 2
    · have hW := hW.2.2.1 hk198
      refine J.tableIn (off := 251) 284 dL_law_33 (by rw [hk198] <;> decide) (by rw [hk198] <;> decide) (by rw [hk198] <;> rfl) (by decide) ?_
      refine J.aload_n dL_law_284 rfl rfl ?_
      refine J.aload_n dL_law_285 rfl rfl ?_
      refine J.iload_n dL_law_286 rfl rfl ?_
      refine J.iconst (v := 1) dL_law_287 (by decide) ?_
      refine J.iadd dL_law_288 ?_
      obtain ⟨hb, hW⟩ := hW
      refine J.sld (x := ex E (x3 + 1).toNatClampNeg) dL_law_289 hb rfl ?_
      refine J.aload_n dL_law_290 rfl rfl ?_
      refine J.iload_n dL_law_291 rfl rfl ?_
      refine J.iconst (v := 2) dL_law_292 (by decide) ?_
      refine J.iadd dL_law_293 ?_
      obtain ⟨hb, hW⟩ := hW
      refine J.sld (x := ex E (x3 + 2).toNatClampNeg) dL_law_294 hb rfl ?_
      refine J.aload_n dL_law_295 rfl rfl ?_
      refine J.iload_n dL_law_296 rfl rfl ?_
      refine J.iconst (v := 3) dL_law_297 (by decide) ?_
      refine J.iadd dL_law_298 ?_
      obtain ⟨hb, hW⟩ := hW
      refine J.sld (x := ex E (x3 + 3).toNatClampNeg) dL_law_299 hb rfl ?_
      refine J.less (bc' := bc + 0) (bs' := bs + 0) ?_ (by omega) (by omega)
      refine J.callV (M' := mX11_road) (index := 23) (bc := bc) (bs := bs) (bc' := 0) (bs' := 0) (st := []) [.int (ex E (x3 + 1).toNatClampNeg), .int (ex E (x3 + 2).toNatClampNeg), .int (ex E (x3 + 3).toNatClampNeg)] ml_L_23 cv_X11_road dL_law_300 (lt0 hs) (kk0 hs) (by decide) rfl rfl rfl rfl (Nat.le_of_ble_eq_true rfl) (kqi hW (fun r13 I12 hW => ?_))
      refine J.aload_n dL_law_303 rfl rfl ?_
      refine J.aload_n dL_law_304 rfl rfl ?_
      refine J.iload_n dL_law_305 rfl rfl ?_
      refine J.iconst (v := 1) dL_law_306 (by decide) ?_
      refine J.iadd dL_law_307 ?_
      obtain ⟨hb, hW⟩ := hW
      refine J.sld (x := ex E (x3 + 1).toNatClampNeg) dL_law_308 hb rfl ?_
      refine J.aload_n dL_law_309 rfl rfl ?_
      refine J.iload_n dL_law_310 rfl rfl ?_
      refine J.iconst (v := 2) dL_law_311 (by decide) ?_
      refine J.iadd dL_law_312 ?_
      obtain ⟨hb, hW⟩ := hW
      refine J.sld (x := ex E (x3 + 2).toNatClampNeg) dL_law_313 hb rfl ?_
      refine J.aload_n dL_law_314 rfl rfl ?_
      refine J.iload_n dL_law_315 rfl rfl ?_
      refine J.iconst (v := 3) dL_law_316 (by decide) ?_
      refine J.iadd dL_law_317 ?_
      obtain ⟨hb, hW⟩ := hW
      refine J.sld (x := ex E (x3 + 3).toNatClampNeg) dL_law_318 hb rfl ?_
      refine J.callV (M' := mX12_road) (index := 27) (bc := bc) (bs := bs) (bc' := 0) (bs' := 0) (st := [.int r13]) [.int (ex E (x3 + 1).toNatClampNeg), .int (ex E (x3 + 2).toNatClampNeg), .int (ex E (x3 + 3).toNatClampNeg)] ml_L_27 cv_X12_road dL_law_319 (lt83 hs) (kk83 hs) (by decide) rfl rfl rfl rfl (Nat.le_of_ble_eq_true rfl) (kqi hW (fun r15 I14 hW => ?_))
      refine J.ic_eq 1365 dL_law_322 (by decide) (fun hc16 => ?_) (fun hc16 => ?_)
      · have hW := hW.1 hc16
        refine J.iinc (v := x3 + 6) (vs' := [some (.ref (eb E)), some (.ref (eB E + 0)), some (.ref (eB E + 83)), some (.int (x3 + 6))]) dL_law_1365 rfl (by rfl) (by decide) rfl ?_
        refine J.goto 18 dL_law_1368 (by decide) ?_
        exact J.less (bc' := bc) (bs' := bs) hW (by omega) (by omega)
      · have hW := hW.2 hc16
        refine J.iconst (v := 0) dL_law_325 (by decide) ?_
        exact J.reti dL_law_326 rfl (bz_nar (Or.inl rfl)) hW
    by_cases hk199 : ((ex E x3.toNatClampNeg) &&& 63) = 3
    · have hW := hW.2.2.2.1 hk199
      refine J.tableIn (off := 294) 327 dL_law_33 (by rw [hk199] <;> decide) (by rw [hk199] <;> decide) (by rw [hk199] <;> rfl) (by decide) ?_
      refine J.aload_n dL_law_327 rfl rfl ?_
      refine J.aload_n dL_law_328 rfl rfl ?_
      refine J.iload_n dL_law_329 rfl rfl ?_
      refine J.iconst (v := 1) dL_law_330 (by decide) ?_
      refine J.iadd dL_law_331 ?_
      obtain ⟨hb, hW⟩ := hW
      refine J.sld (x := ex E (x3 + 1).toNatClampNeg) dL_law_332 hb rfl ?_
      refine J.aload_n dL_law_333 rfl rfl ?_
      refine J.iload_n dL_law_334 rfl rfl ?_
      refine J.iconst (v := 2) dL_law_335 (by decide) ?_
      refine J.iadd dL_law_336 ?_
      obtain ⟨hb, hW⟩ := hW
      refine J.sld (x := ex E (x3 + 2).toNatClampNeg) dL_law_337 hb rfl ?_
      refine J.aload_n dL_law_338 rfl rfl ?_
      refine J.iload_n dL_law_339 rfl rfl ?_
      refine J.iconst (v := 3) dL_law_340 (by decide) ?_
      refine J.iadd dL_law_341 ?_
      obtain ⟨hb, hW⟩ := hW
      refine J.sld (x := ex E (x3 + 3).toNatClampNeg) dL_law_342 hb rfl ?_
      have hj : J E mL_law (d + 11) Q (bc + 50) (bs + 2000) 351 [some (.ref (eb E)), some (.ref (eB E + 0)), some (.ref (eB E + 83)), some (.int x3)] [.int (bI (¬ ((ex E (x3 + 3).toNatClampNeg) = 0))), .int (ex E (x3 + 2).toNatClampNeg), .int (ex E (x3 + 1).toNatClampNeg), .ref (eB E + 0)] h I L := by
        refine J.less (bc' := bc + 0) (bs' := bs + 0) ?_ (by omega) (by omega)
        refine J.callV (M' := mX11_feud) (index := 28) (bc := bc) (bs := bs) (bc' := 0) (bs' := 0) (st := []) [.int (ex E (x3 + 1).toNatClampNeg), .int (ex E (x3 + 2).toNatClampNeg), .int (bI (¬ ((ex E (x3 + 3).toNatClampNeg) = 0)))] ml_L_28 cv_X11_feud dL_law_351 (lt0 hs) (kk0 hs) (by decide) rfl rfl rfl rfl (Nat.le_of_ble_eq_true rfl) (kqi hW (fun r19 I18 hW => ?_))
        refine J.aload_n dL_law_354 rfl rfl ?_
        refine J.aload_n dL_law_355 rfl rfl ?_
        refine J.iload_n dL_law_356 rfl rfl ?_
        refine J.iconst (v := 1) dL_law_357 (by decide) ?_
        refine J.iadd dL_law_358 ?_
        obtain ⟨hb, hW⟩ := hW
        refine J.sld (x := ex E (x3 + 1).toNatClampNeg) dL_law_359 hb rfl ?_
        refine J.aload_n dL_law_360 rfl rfl ?_
        refine J.iload_n dL_law_361 rfl rfl ?_
        refine J.iconst (v := 2) dL_law_362 (by decide) ?_
        refine J.iadd dL_law_363 ?_
        obtain ⟨hb, hW⟩ := hW
        refine J.sld (x := ex E (x3 + 2).toNatClampNeg) dL_law_364 hb rfl ?_
        refine J.aload_n dL_law_365 rfl rfl ?_
        refine J.iload_n dL_law_366 rfl rfl ?_
        refine J.iconst (v := 3) dL_law_367 (by decide) ?_
        refine J.iadd dL_law_368 ?_
        obtain ⟨hb, hW⟩ := hW
        refine J.sld (x := ex E (x3 + 3).toNatClampNeg) dL_law_369 hb rfl ?_
        have hj : J E mL_law (d + 11) Q bc bs 378 [some (.ref (eb E)), some (.ref (eB E + 0)), some (.ref (eB E + 83)), some (.int x3)] [.int (bI (¬ ((ex E (x3 + 3).toNatClampNeg) = 0))), .int (ex E (x3 + 2).toNatClampNeg), .int (ex E (x3 + 1).toNatClampNeg), .ref (eB E + 83), .int r19] h I18 L := by
          refine J.callV (M' := mX12_feud) (index := 32) (bc := bc) (bs := bs) (bc' := 0) (bs' := 0) (st := [.int r19]) [.int (ex E (x3 + 1).toNatClampNeg), .int (ex E (x3 + 2).toNatClampNeg), .int (bI (¬ ((ex E (x3 + 3).toNatClampNeg) = 0)))] ml_L_32 cv_X12_feud dL_law_378 (lt83 hs) (kk83 hs) (by decide) rfl rfl rfl rfl (Nat.le_of_ble_eq_true rfl) (kqi hW (fun r22 I21 hW => ?_))
          refine J.ic_eq 1365 dL_law_381 (by decide) (fun hc23 => ?_) (fun hc23 => ?_)
          · have hW := hW.1 hc23
            refine J.iinc (v := x3 + 6) (vs' := [some (.ref (eb E)), some (.ref (eB E + 0)), some (.ref (eB E + 83)), some (.int (x3 + 6))]) dL_law_1365 rfl (by rfl) (by decide) rfl ?_
            refine J.goto 18 dL_law_1368 (by decide) ?_
            exact J.less (bc' := bc) (bs' := bs) hW (by omega) (by omega)
          · have hW := hW.2 hc23
            refine J.iconst (v := 0) dL_law_384 (by decide) ?_
            exact J.reti dL_law_385 rfl (bz_nar (Or.inl rfl)) hW
        refine J.if_eq 377 dL_law_370 (by decide) (fun hc20 => ?_) (fun hc20 => ?_)
        · refine J.iconst (v := 0) dL_law_377 (by decide) ?_
          rw [show bI (¬ ((ex E (x3 + 3).toNatClampNeg) = 0)) = 0 from bI_f (by simp only [eq_true hc20, and_true, true_and, and_false, false_and, or_true, true_or, or_false, false_or, not_true_eq_false, not_false_eq_true])] at hj
          exact hj
        · refine J.iconst (v := 1) dL_law_373 (by decide) ?_
          refine J.goto 378 dL_law_374 (by decide) ?_
          rw [show bI (¬ ((ex E (x3 + 3).toNatClampNeg) = 0)) = 1 from bI_t (by simp only [eq_false hc20, and_true, true_and, and_false, false_and, or_true, true_or, or_false, false_or, not_true_eq_false, not_false_eq_true])] at hj
          exact hj
      refine J.if_eq 350 dL_law_343 (by decide) (fun hc17 => ?_) (fun hc17 => ?_)
      · refine J.iconst (v := 0) dL_law_350 (by decide) ?_
        rw [show bI (¬ ((ex E (x3 + 3).toNatClampNeg) = 0)) = 0 from bI_f (by simp only [eq_true hc17, and_true, true_and, and_false, false_and, or_true, true_or, or_false, false_or, not_true_eq_false, not_false_eq_true])] at hj
        exact hj
      · refine J.iconst (v := 1) dL_law_346 (by decide) ?_
        refine J.goto 351 dL_law_347 (by decide) ?_
        rw [show bI (¬ ((ex E (x3 + 3).toNatClampNeg) = 0)) = 1 from bI_t (by simp only [eq_false hc17, and_true, true_and, and_false, false_and, or_true, true_or, or_false, false_or, not_true_eq_false, not_false_eq_true])] at hj
        exact hj
    by_cases hk200 : ((ex E x3.toNatClampNeg) &&& 63) = 4
    · have hW := hW.2.2.2.2.1 hk200
      refine J.tableIn (off := 353) 386 dL_law_33 (by rw [hk200] <;> decide) (by rw [hk200] <;> decide) (by rw [hk200] <;> rfl) (by decide) ?_
      refine J.aload_n dL_law_386 rfl rfl ?_
      refine J.aload_n dL_law_387 rfl rfl ?_
      refine J.iload_n dL_law_388 rfl rfl ?_
      refine J.iconst (v := 1) dL_law_389 (by decide) ?_
      refine J.iadd dL_law_390 ?_
      obtain ⟨hb, hW⟩ := hW
      refine J.sld (x := ex E (x3 + 1).toNatClampNeg) dL_law_391 hb rfl ?_
      refine J.aload_n dL_law_392 rfl rfl ?_
      refine J.iload_n dL_law_393 rfl rfl ?_
      refine J.iconst (v := 2) dL_law_394 (by decide) ?_
      refine J.iadd dL_law_395 ?_
      obtain ⟨hb, hW⟩ := hW
      refine J.sld (x := ex E (x3 + 2).toNatClampNeg) dL_law_396 hb rfl ?_
      refine J.less (bc' := bc + 0) (bs' := bs + 0) ?_ (by omega) (by omega)
      refine J.callV (M' := mX11_harvest) (index := 33) (bc := bc) (bs := bs) (bc' := 0) (bs' := 0) (st := []) [.int (ex E (x3 + 1).toNatClampNeg), .int (ex E (x3 + 2).toNatClampNeg)] ml_L_33 cv_X11_harvest dL_law_397 (lt0 hs) (kk0 hs) (by decide) rfl rfl rfl rfl (Nat.le_of_ble_eq_true rfl) (kqi hW (fun r25 I24 hW => ?_))
      refine J.aload_n dL_law_400 rfl rfl ?_
      refine J.aload_n dL_law_401 rfl rfl ?_
      refine J.iload_n dL_law_402 rfl rfl ?_
      refine J.iconst (v := 1) dL_law_403 (by decide) ?_
      refine J.iadd dL_law_404 ?_
      obtain ⟨hb, hW⟩ := hW
      refine J.sld (x := ex E (x3 + 1).toNatClampNeg) dL_law_405 hb rfl ?_
      refine J.aload_n dL_law_406 rfl rfl ?_
      refine J.iload_n dL_law_407 rfl rfl ?_
      refine J.iconst (v := 2) dL_law_408 (by decide) ?_
      refine J.iadd dL_law_409 ?_
      obtain ⟨hb, hW⟩ := hW
      refine J.sld (x := ex E (x3 + 2).toNatClampNeg) dL_law_410 hb rfl ?_
      refine J.callV (M' := mX12_harvest) (index := 37) (bc := bc) (bs := bs) (bc' := 0) (bs' := 0) (st := [.int r25]) [.int (ex E (x3 + 1).toNatClampNeg), .int (ex E (x3 + 2).toNatClampNeg)] ml_L_37 cv_X12_harvest dL_law_411 (lt83 hs) (kk83 hs) (by decide) rfl rfl rfl rfl (Nat.le_of_ble_eq_true rfl) (kqi hW (fun r27 I26 hW => ?_))
      refine J.ic_eq 1365 dL_law_414 (by decide) (fun hc28 => ?_) (fun hc28 => ?_)
      · have hW := hW.1 hc28
        refine J.iinc (v := x3 + 6) (vs' := [some (.ref (eb E)), some (.ref (eB E + 0)), some (.ref (eB E + 83)), some (.int (x3 + 6))]) dL_law_1365 rfl (by rfl) (by decide) rfl ?_
        refine J.goto 18 dL_law_1368 (by decide) ?_
        exact J.less (bc' := bc) (bs' := bs) hW (by omega) (by omega)
      · have hW := hW.2 hc28
        refine J.iconst (v := 0) dL_law_417 (by decide) ?_
        exact J.reti dL_law_418 rfl (bz_nar (Or.inl rfl)) hW
    by_cases hk201 : ((ex E x3.toNatClampNeg) &&& 63) = 5
    · have hW := hW.2.2.2.2.2.1 hk201
      refine J.tableIn (off := 386) 419 dL_law_33 (by rw [hk201] <;> decide) (by rw [hk201] <;> decide) (by rw [hk201] <;> rfl) (by decide) ?_
      refine J.aload_n dL_law_419 rfl rfl ?_
      refine J.aload_n dL_law_420 rfl rfl ?_
      refine J.iload_n dL_law_421 rfl rfl ?_
      refine J.iconst (v := 1) dL_law_422 (by decide) ?_
      refine J.iadd dL_law_423 ?_
      obtain ⟨hb, hW⟩ := hW
      refine J.sld (x := ex E (x3 + 1).toNatClampNeg) dL_law_424 hb rfl ?_
      refine J.aload_n dL_law_425 rfl rfl ?_
      refine J.iload_n dL_law_426 rfl rfl ?_
      refine J.iconst (v := 2) dL_law_427 (by decide) ?_
      refine J.iadd dL_law_428 ?_
      obtain ⟨hb, hW⟩ := hW
      refine J.sld (x := ex E (x3 + 2).toNatClampNeg) dL_law_429 hb rfl ?_
      refine J.aload_n dL_law_430 rfl rfl ?_
      refine J.iload_n dL_law_431 rfl rfl ?_
      refine J.iconst (v := 3) dL_law_432 (by decide) ?_
      refine J.iadd dL_law_433 ?_
      obtain ⟨hb, hW⟩ := hW
      refine J.sld (x := ex E (x3 + 3).toNatClampNeg) dL_law_434 hb rfl ?_
      refine J.less (bc' := bc + 0) (bs' := bs + 0) ?_ (by omega) (by omega)
      refine J.callV (M' := mX11_parent) (index := 38) (bc := bc) (bs := bs) (bc' := 0) (bs' := 0) (st := []) [.int (ex E (x3 + 1).toNatClampNeg), .int (ex E (x3 + 2).toNatClampNeg), .int (ex E (x3 + 3).toNatClampNeg)] ml_L_38 cv_X11_parent dL_law_435 (lt0 hs) (kk0 hs) (by decide) rfl rfl rfl rfl (Nat.le_of_ble_eq_true rfl) (kqi hW (fun r30 I29 hW => ?_))
      refine J.aload_n dL_law_438 rfl rfl ?_
      refine J.aload_n dL_law_439 rfl rfl ?_
      refine J.iload_n dL_law_440 rfl rfl ?_
      refine J.iconst (v := 1) dL_law_441 (by decide) ?_
      refine J.iadd dL_law_442 ?_
      obtain ⟨hb, hW⟩ := hW
      refine J.sld (x := ex E (x3 + 1).toNatClampNeg) dL_law_443 hb rfl ?_
      refine J.aload_n dL_law_444 rfl rfl ?_
      refine J.iload_n dL_law_445 rfl rfl ?_
      refine J.iconst (v := 2) dL_law_446 (by decide) ?_
      refine J.iadd dL_law_447 ?_
      obtain ⟨hb, hW⟩ := hW
      refine J.sld (x := ex E (x3 + 2).toNatClampNeg) dL_law_448 hb rfl ?_
      refine J.aload_n dL_law_449 rfl rfl ?_
      refine J.iload_n dL_law_450 rfl rfl ?_
      refine J.iconst (v := 3) dL_law_451 (by decide) ?_
      refine J.iadd dL_law_452 ?_
      obtain ⟨hb, hW⟩ := hW
      refine J.sld (x := ex E (x3 + 3).toNatClampNeg) dL_law_453 hb rfl ?_
      refine J.callV (M' := mX12_parent) (index := 41) (bc := bc) (bs := bs) (bc' := 0) (bs' := 0) (st := [.int r30]) [.int (ex E (x3 + 1).toNatClampNeg), .int (ex E (x3 + 2).toNatClampNeg), .int (ex E (x3 + 3).toNatClampNeg)] ml_L_41 cv_X12_parent dL_law_454 (lt83 hs) (kk83 hs) (by decide) rfl rfl rfl rfl (Nat.le_of_ble_eq_true rfl) (kqi hW (fun r32 I31 hW => ?_))
      refine J.ic_eq 1365 dL_law_457 (by decide) (fun hc33 => ?_) (fun hc33 => ?_)
      · have hW := hW.1 hc33
        refine J.iinc (v := x3 + 6) (vs' := [some (.ref (eb E)), some (.ref (eB E + 0)), some (.ref (eB E + 83)), some (.int (x3 + 6))]) dL_law_1365 rfl (by rfl) (by decide) rfl ?_
        refine J.goto 18 dL_law_1368 (by decide) ?_
        exact J.less (bc' := bc) (bs' := bs) hW (by omega) (by omega)
      · have hW := hW.2 hc33
        refine J.iconst (v := 0) dL_law_460 (by decide) ?_
        exact J.reti dL_law_461 rfl (bz_nar (Or.inl rfl)) hW
    by_cases hk202 : ((ex E x3.toNatClampNeg) &&& 63) = 6
    · have hW := hW.2.2.2.2.2.2.1 hk202
      refine J.tableIn (off := 429) 462 dL_law_33 (by rw [hk202] <;> decide) (by rw [hk202] <;> decide) (by rw [hk202] <;> rfl) (by decide) ?_
      refine J.aload_n dL_law_462 rfl rfl ?_
      refine J.aload_n dL_law_463 rfl rfl ?_
      refine J.iload_n dL_law_464 rfl rfl ?_
      refine J.iconst (v := 1) dL_law_465 (by decide) ?_
      refine J.iadd dL_law_466 ?_
      obtain ⟨hb, hW⟩ := hW
      refine J.sld (x := ex E (x3 + 1).toNatClampNeg) dL_law_467 hb rfl ?_
      refine J.aload_n dL_law_468 rfl rfl ?_
      refine J.iload_n dL_law_469 rfl rfl ?_
      refine J.iconst (v := 2) dL_law_470 (by decide) ?_
      refine J.iadd dL_law_471 ?_
      obtain ⟨hb, hW⟩ := hW
      refine J.sld (x := ex E (x3 + 2).toNatClampNeg) dL_law_472 hb rfl ?_
      refine J.less (bc' := bc + 0) (bs' := bs + 0) ?_ (by omega) (by omega)
      refine J.callV (M' := mX11_heard) (index := 42) (bc := bc) (bs := bs) (bc' := 0) (bs' := 0) (st := []) [.int (ex E (x3 + 1).toNatClampNeg), .int (ex E (x3 + 2).toNatClampNeg)] ml_L_42 cv_X11_heard dL_law_473 (lt0 hs) (kk0 hs) (by decide) rfl rfl rfl rfl (Nat.le_of_ble_eq_true rfl) (kqi hW (fun r35 I34 hW => ?_))
      refine J.aload_n dL_law_476 rfl rfl ?_
      refine J.aload_n dL_law_477 rfl rfl ?_
      refine J.iload_n dL_law_478 rfl rfl ?_
      refine J.iconst (v := 1) dL_law_479 (by decide) ?_
      refine J.iadd dL_law_480 ?_
      obtain ⟨hb, hW⟩ := hW
      refine J.sld (x := ex E (x3 + 1).toNatClampNeg) dL_law_481 hb rfl ?_
      refine J.aload_n dL_law_482 rfl rfl ?_
      refine J.iload_n dL_law_483 rfl rfl ?_
      refine J.iconst (v := 2) dL_law_484 (by decide) ?_
      refine J.iadd dL_law_485 ?_
      obtain ⟨hb, hW⟩ := hW
      refine J.sld (x := ex E (x3 + 2).toNatClampNeg) dL_law_486 hb rfl ?_
      refine J.callV (M' := mX12_heard) (index := 45) (bc := bc) (bs := bs) (bc' := 0) (bs' := 0) (st := [.int r35]) [.int (ex E (x3 + 1).toNatClampNeg), .int (ex E (x3 + 2).toNatClampNeg)] ml_L_45 cv_X12_heard dL_law_487 (lt83 hs) (kk83 hs) (by decide) rfl rfl rfl rfl (Nat.le_of_ble_eq_true rfl) (kqi hW (fun r37 I36 hW => ?_))
      refine J.ic_eq 1365 dL_law_490 (by decide) (fun hc38 => ?_) (fun hc38 => ?_)
      · have hW := hW.1 hc38
        refine J.iinc (v := x3 + 6) (vs' := [some (.ref (eb E)), some (.ref (eB E + 0)), some (.ref (eB E + 83)), some (.int (x3 + 6))]) dL_law_1365 rfl (by rfl) (by decide) rfl ?_
        refine J.goto 18 dL_law_1368 (by decide) ?_
        exact J.less (bc' := bc) (bs' := bs) hW (by omega) (by omega)
      · have hW := hW.2 hc38
        refine J.iconst (v := 0) dL_law_493 (by decide) ?_
        exact J.reti dL_law_494 rfl (bz_nar (Or.inl rfl)) hW
    by_cases hk203 : ((ex E x3.toNatClampNeg) &&& 63) = 7
    · have hW := hW.2.2.2.2.2.2.2.1 hk203
      refine J.tableIn (off := 462) 495 dL_law_33 (by rw [hk203] <;> decide) (by rw [hk203] <;> decide) (by rw [hk203] <;> rfl) (by decide) ?_
      refine J.aload_n dL_law_495 rfl rfl ?_
      refine J.aload_n dL_law_496 rfl rfl ?_
      refine J.iload_n dL_law_497 rfl rfl ?_
      refine J.iconst (v := 1) dL_law_498 (by decide) ?_
      refine J.iadd dL_law_499 ?_
      obtain ⟨hb, hW⟩ := hW
      refine J.sld (x := ex E (x3 + 1).toNatClampNeg) dL_law_500 hb rfl ?_
      refine J.less (bc' := bc + 0) (bs' := bs + 0) ?_ (by omega) (by omega)
      refine J.callV (M' := mX11_die) (index := 46) (bc := bc) (bs := bs) (bc' := 0) (bs' := 0) (st := []) [.int (ex E (x3 + 1).toNatClampNeg)] ml_L_46 cv_X11_die dL_law_501 (lt0 hs) (kk0 hs) (by decide) rfl rfl rfl rfl (Nat.le_of_ble_eq_true rfl) (kqi hW (fun r40 I39 hW => ?_))
      refine J.aload_n dL_law_504 rfl rfl ?_
      refine J.aload_n dL_law_505 rfl rfl ?_
      refine J.iload_n dL_law_506 rfl rfl ?_
      refine J.iconst (v := 1) dL_law_507 (by decide) ?_
      refine J.iadd dL_law_508 ?_
      obtain ⟨hb, hW⟩ := hW
      refine J.sld (x := ex E (x3 + 1).toNatClampNeg) dL_law_509 hb rfl ?_
      refine J.callV (M' := mX12_die) (index := 50) (bc := bc) (bs := bs) (bc' := 0) (bs' := 0) (st := [.int r40]) [.int (ex E (x3 + 1).toNatClampNeg)] ml_L_50 cv_X12_die dL_law_510 (lt83 hs) (kk83 hs) (by decide) rfl rfl rfl rfl (Nat.le_of_ble_eq_true rfl) (kqi hW (fun r42 I41 hW => ?_))
      refine J.ic_eq 1365 dL_law_513 (by decide) (fun hc43 => ?_) (fun hc43 => ?_)
      · have hW := hW.1 hc43
        refine J.iinc (v := x3 + 6) (vs' := [some (.ref (eb E)), some (.ref (eB E + 0)), some (.ref (eB E + 83)), some (.int (x3 + 6))]) dL_law_1365 rfl (by rfl) (by decide) rfl ?_
        refine J.goto 18 dL_law_1368 (by decide) ?_
        exact J.less (bc' := bc) (bs' := bs) hW (by omega) (by omega)
      · have hW := hW.2 hc43
        refine J.iconst (v := 0) dL_law_516 (by decide) ?_
        exact J.reti dL_law_517 rfl (bz_nar (Or.inl rfl)) hW
    by_cases hk204 : ((ex E x3.toNatClampNeg) &&& 63) = 8
    · have hW := hW.2.2.2.2.2.2.2.2.1 hk204
      refine J.tableIn (off := 485) 518 dL_law_33 (by rw [hk204] <;> decide) (by rw [hk204] <;> decide) (by rw [hk204] <;> rfl) (by decide) ?_
      refine J.aload_n dL_law_518 rfl rfl ?_
      refine J.less (bc' := bc + 0) (bs' := bs + 0) ?_ (by omega) (by omega)
      refine J.callV (M' := mX11_year) (index := 51) (bc := bc) (bs := bs) (bc' := 0) (bs' := 0) (st := []) [] ml_L_51 cv_X11_year dL_law_519 (lt0 hs) (kk0 hs) (by decide) rfl rfl rfl rfl (Nat.le_of_ble_eq_true rfl) (kqi hW (fun r45 I44 hW => ?_))
      refine J.aload_n dL_law_522 rfl rfl ?_
      refine J.callV (M' := mX12_year) (index := 55) (bc := bc) (bs := bs) (bc' := 0) (bs' := 0) (st := [.int r45]) [] ml_L_55 cv_X12_year dL_law_523 (lt83 hs) (kk83 hs) (by decide) rfl rfl rfl rfl (Nat.le_of_ble_eq_true rfl) (kqi hW (fun r47 I46 hW => ?_))
      refine J.ic_eq 1365 dL_law_526 (by decide) (fun hc48 => ?_) (fun hc48 => ?_)
      · have hW := hW.1 hc48
        refine J.iinc (v := x3 + 6) (vs' := [some (.ref (eb E)), some (.ref (eB E + 0)), some (.ref (eB E + 83)), some (.int (x3 + 6))]) dL_law_1365 rfl (by rfl) (by decide) rfl ?_
        refine J.goto 18 dL_law_1368 (by decide) ?_
        exact J.less (bc' := bc) (bs' := bs) hW (by omega) (by omega)
      · have hW := hW.2 hc48
        refine J.iconst (v := 0) dL_law_529 (by decide) ?_
        exact J.reti dL_law_530 rfl (bz_nar (Or.inl rfl)) hW
    by_cases hk205 : ((ex E x3.toNatClampNeg) &&& 63) = 9
    · have hW := hW.2.2.2.2.2.2.2.2.2.1 hk205
      refine J.tableIn (off := 498) 531 dL_law_33 (by rw [hk205] <;> decide) (by rw [hk205] <;> decide) (by rw [hk205] <;> rfl) (by decide) ?_
      refine J.aload_n dL_law_531 rfl rfl ?_
      refine J.aload_n dL_law_532 rfl rfl ?_
      refine J.iload_n dL_law_533 rfl rfl ?_
      refine J.iconst (v := 1) dL_law_534 (by decide) ?_
      refine J.iadd dL_law_535 ?_
      obtain ⟨hb, hW⟩ := hW
      refine J.sld (x := ex E (x3 + 1).toNatClampNeg) dL_law_536 hb rfl ?_
      refine J.aload_n dL_law_537 rfl rfl ?_
      refine J.iload_n dL_law_538 rfl rfl ?_
      refine J.iconst (v := 2) dL_law_539 (by decide) ?_
      refine J.iadd dL_law_540 ?_
      obtain ⟨hb, hW⟩ := hW
      refine J.sld (x := ex E (x3 + 2).toNatClampNeg) dL_law_541 hb rfl ?_
      refine J.aload_n dL_law_542 rfl rfl ?_
      refine J.iload_n dL_law_543 rfl rfl ?_
      refine J.iconst (v := 3) dL_law_544 (by decide) ?_
      refine J.iadd dL_law_545 ?_
      obtain ⟨hb, hW⟩ := hW
      refine J.sld (x := ex E (x3 + 3).toNatClampNeg) dL_law_546 hb rfl ?_
      refine J.aload_n dL_law_547 rfl rfl ?_
      refine J.iload_n dL_law_548 rfl rfl ?_
      refine J.iconst (v := 4) dL_law_549 (by decide) ?_
      refine J.iadd dL_law_550 ?_
      obtain ⟨hb, hW⟩ := hW
      refine J.sld (x := ex E (x3 + 4).toNatClampNeg) dL_law_551 hb rfl ?_
      refine J.less (bc' := bc + 0) (bs' := bs + 0) ?_ (by omega) (by omega)
      refine J.callV (M' := mX11_kin) (index := 56) (bc := bc) (bs := bs) (bc' := 0) (bs' := 0) (st := []) [.int (ex E (x3 + 1).toNatClampNeg), .int (ex E (x3 + 2).toNatClampNeg), .int (ex E (x3 + 3).toNatClampNeg), .int (ex E (x3 + 4).toNatClampNeg)] ml_L_56 cv_X11_kin dL_law_552 (lt0 hs) (kk0 hs) (by decide) rfl rfl rfl rfl (Nat.le_of_ble_eq_true rfl) (kqi hW (fun r50 I49 hW => ?_))
      refine J.aload_n dL_law_555 rfl rfl ?_
      refine J.aload_n dL_law_556 rfl rfl ?_
      refine J.iload_n dL_law_557 rfl rfl ?_
      refine J.iconst (v := 1) dL_law_558 (by decide) ?_
      refine J.iadd dL_law_559 ?_
      obtain ⟨hb, hW⟩ := hW
      refine J.sld (x := ex E (x3 + 1).toNatClampNeg) dL_law_560 hb rfl ?_
      refine J.aload_n dL_law_561 rfl rfl ?_
      refine J.iload_n dL_law_562 rfl rfl ?_
      refine J.iconst (v := 2) dL_law_563 (by decide) ?_
      refine J.iadd dL_law_564 ?_
      obtain ⟨hb, hW⟩ := hW
      refine J.sld (x := ex E (x3 + 2).toNatClampNeg) dL_law_565 hb rfl ?_
      refine J.aload_n dL_law_566 rfl rfl ?_
      refine J.iload_n dL_law_567 rfl rfl ?_
      refine J.iconst (v := 3) dL_law_568 (by decide) ?_
      refine J.iadd dL_law_569 ?_
      obtain ⟨hb, hW⟩ := hW
      refine J.sld (x := ex E (x3 + 3).toNatClampNeg) dL_law_570 hb rfl ?_
      refine J.aload_n dL_law_571 rfl rfl ?_
      refine J.iload_n dL_law_572 rfl rfl ?_
      refine J.iconst (v := 4) dL_law_573 (by decide) ?_
      refine J.iadd dL_law_574 ?_
      obtain ⟨hb, hW⟩ := hW
      refine J.sld (x := ex E (x3 + 4).toNatClampNeg) dL_law_575 hb rfl ?_
      refine J.callV (M' := mX12_kin) (index := 59) (bc := bc) (bs := bs) (bc' := 0) (bs' := 0) (st := [.int r50]) [.int (ex E (x3 + 1).toNatClampNeg), .int (ex E (x3 + 2).toNatClampNeg), .int (ex E (x3 + 3).toNatClampNeg), .int (ex E (x3 + 4).toNatClampNeg)] ml_L_59 cv_X12_kin dL_law_576 (lt83 hs) (kk83 hs) (by decide) rfl rfl rfl rfl (Nat.le_of_ble_eq_true rfl) (kqi hW (fun r52 I51 hW => ?_))
      refine J.ic_eq 1365 dL_law_579 (by decide) (fun hc53 => ?_) (fun hc53 => ?_)
      · have hW := hW.1 hc53
        refine J.iinc (v := x3 + 6) (vs' := [some (.ref (eb E)), some (.ref (eB E + 0)), some (.ref (eB E + 83)), some (.int (x3 + 6))]) dL_law_1365 rfl (by rfl) (by decide) rfl ?_
        refine J.goto 18 dL_law_1368 (by decide) ?_
        exact J.less (bc' := bc) (bs' := bs) hW (by omega) (by omega)
      · have hW := hW.2 hc53
        refine J.iconst (v := 0) dL_law_582 (by decide) ?_
        exact J.reti dL_law_583 rfl (bz_nar (Or.inl rfl)) hW
    by_cases hk206 : ((ex E x3.toNatClampNeg) &&& 63) = 10
    · have hW := hW.2.2.2.2.2.2.2.2.2.2.1 hk206
      refine J.tableIn (off := 551) 584 dL_law_33 (by rw [hk206] <;> decide) (by rw [hk206] <;> decide) (by rw [hk206] <;> rfl) (by decide) ?_
      refine J.aload_n dL_law_584 rfl rfl ?_
      refine J.aload_n dL_law_585 rfl rfl ?_
      refine J.iload_n dL_law_586 rfl rfl ?_
      refine J.iconst (v := 1) dL_law_587 (by decide) ?_
      refine J.iadd dL_law_588 ?_
      obtain ⟨hb, hW⟩ := hW
      refine J.sld (x := ex E (x3 + 1).toNatClampNeg) dL_law_589 hb rfl ?_
      refine J.aload_n dL_law_590 rfl rfl ?_
      refine J.iload_n dL_law_591 rfl rfl ?_
      refine J.iconst (v := 2) dL_law_592 (by decide) ?_
      refine J.iadd dL_law_593 ?_
      obtain ⟨hb, hW⟩ := hW
      refine J.sld (x := ex E (x3 + 2).toNatClampNeg) dL_law_594 hb rfl ?_
      refine J.aload_n dL_law_595 rfl rfl ?_
      refine J.iload_n dL_law_596 rfl rfl ?_
      refine J.iconst (v := 3) dL_law_597 (by decide) ?_
      refine J.iadd dL_law_598 ?_
      obtain ⟨hb, hW⟩ := hW
      refine J.sld (x := ex E (x3 + 3).toNatClampNeg) dL_law_599 hb rfl ?_
      refine J.aload_n dL_law_600 rfl rfl ?_
      refine J.iload_n dL_law_601 rfl rfl ?_
      refine J.iconst (v := 4) dL_law_602 (by decide) ?_
      refine J.iadd dL_law_603 ?_
      obtain ⟨hb, hW⟩ := hW
      refine J.sld (x := ex E (x3 + 4).toNatClampNeg) dL_law_604 hb rfl ?_
      refine J.aload_n dL_law_605 rfl rfl ?_
      refine J.iload_n dL_law_606 rfl rfl ?_
      refine J.iconst (v := 5) dL_law_607 (by decide) ?_
      refine J.iadd dL_law_608 ?_
      obtain ⟨hb, hW⟩ := hW
      refine J.sld (x := ex E (x3 + 5).toNatClampNeg) dL_law_609 hb rfl ?_
      refine J.less (bc' := bc + 0) (bs' := bs + 0) ?_ (by omega) (by omega)
      refine J.callV (M' := mX11_chain) (index := 60) (bc := bc) (bs := bs) (bc' := 0) (bs' := 0) (st := []) [.int (ex E (x3 + 1).toNatClampNeg), .int (ex E (x3 + 2).toNatClampNeg), .int (ex E (x3 + 3).toNatClampNeg), .int (ex E (x3 + 4).toNatClampNeg), .int (ex E (x3 + 5).toNatClampNeg)] ml_L_60 cv_X11_chain dL_law_610 (lt0 hs) (kk0 hs) (by decide) rfl rfl rfl rfl (Nat.le_of_ble_eq_true rfl) (kqi hW (fun r55 I54 hW => ?_))
      refine J.aload_n dL_law_613 rfl rfl ?_
      refine J.aload_n dL_law_614 rfl rfl ?_
      refine J.iload_n dL_law_615 rfl rfl ?_
      refine J.iconst (v := 1) dL_law_616 (by decide) ?_
      refine J.iadd dL_law_617 ?_
      obtain ⟨hb, hW⟩ := hW
      refine J.sld (x := ex E (x3 + 1).toNatClampNeg) dL_law_618 hb rfl ?_
      refine J.aload_n dL_law_619 rfl rfl ?_
      refine J.iload_n dL_law_620 rfl rfl ?_
      refine J.iconst (v := 2) dL_law_621 (by decide) ?_
      refine J.iadd dL_law_622 ?_
      obtain ⟨hb, hW⟩ := hW
      refine J.sld (x := ex E (x3 + 2).toNatClampNeg) dL_law_623 hb rfl ?_
      refine J.aload_n dL_law_624 rfl rfl ?_
      refine J.iload_n dL_law_625 rfl rfl ?_
      refine J.iconst (v := 3) dL_law_626 (by decide) ?_
      refine J.iadd dL_law_627 ?_
      obtain ⟨hb, hW⟩ := hW
      refine J.sld (x := ex E (x3 + 3).toNatClampNeg) dL_law_628 hb rfl ?_
      refine J.aload_n dL_law_629 rfl rfl ?_
      refine J.iload_n dL_law_630 rfl rfl ?_
      refine J.iconst (v := 4) dL_law_631 (by decide) ?_
      refine J.iadd dL_law_632 ?_
      obtain ⟨hb, hW⟩ := hW
      refine J.sld (x := ex E (x3 + 4).toNatClampNeg) dL_law_633 hb rfl ?_
      refine J.aload_n dL_law_634 rfl rfl ?_
      refine J.iload_n dL_law_635 rfl rfl ?_
      refine J.iconst (v := 5) dL_law_636 (by decide) ?_
      refine J.iadd dL_law_637 ?_
      obtain ⟨hb, hW⟩ := hW
      refine J.sld (x := ex E (x3 + 5).toNatClampNeg) dL_law_638 hb rfl ?_
      refine J.callV (M' := mX12_chain) (index := 64) (bc := bc) (bs := bs) (bc' := 0) (bs' := 0) (st := [.int r55]) [.int (ex E (x3 + 1).toNatClampNeg), .int (ex E (x3 + 2).toNatClampNeg), .int (ex E (x3 + 3).toNatClampNeg), .int (ex E (x3 + 4).toNatClampNeg), .int (ex E (x3 + 5).toNatClampNeg)] ml_L_64 cv_X12_chain dL_law_639 (lt83 hs) (kk83 hs) (by decide) rfl rfl rfl rfl (Nat.le_of_ble_eq_true rfl) (kqi hW (fun r57 I56 hW => ?_))
      refine J.ic_eq 1365 dL_law_642 (by decide) (fun hc58 => ?_) (fun hc58 => ?_)
      · have hW := hW.1 hc58
        refine J.iinc (v := x3 + 6) (vs' := [some (.ref (eb E)), some (.ref (eB E + 0)), some (.ref (eB E + 83)), some (.int (x3 + 6))]) dL_law_1365 rfl (by rfl) (by decide) rfl ?_
        refine J.goto 18 dL_law_1368 (by decide) ?_
        exact J.less (bc' := bc) (bs' := bs) hW (by omega) (by omega)
      · have hW := hW.2 hc58
        refine J.iconst (v := 0) dL_law_645 (by decide) ?_
        exact J.reti dL_law_646 rfl (bz_nar (Or.inl rfl)) hW
    by_cases hk207 : ((ex E x3.toNatClampNeg) &&& 63) = 11
    · have hW := hW.2.2.2.2.2.2.2.2.2.2.2.1 hk207
      refine J.tableIn (off := 614) 647 dL_law_33 (by rw [hk207] <;> decide) (by rw [hk207] <;> decide) (by rw [hk207] <;> rfl) (by decide) ?_
      refine J.aload_n dL_law_647 rfl rfl ?_
      refine J.aload_n dL_law_648 rfl rfl ?_
      refine J.iload_n dL_law_649 rfl rfl ?_
      refine J.iconst (v := 1) dL_law_650 (by decide) ?_
      refine J.iadd dL_law_651 ?_
      obtain ⟨hb, hW⟩ := hW
      refine J.sld (x := ex E (x3 + 1).toNatClampNeg) dL_law_652 hb rfl ?_
      refine J.aload_n dL_law_653 rfl rfl ?_
      refine J.iload_n dL_law_654 rfl rfl ?_
      refine J.iconst (v := 2) dL_law_655 (by decide) ?_
      refine J.iadd dL_law_656 ?_
      obtain ⟨hb, hW⟩ := hW
      refine J.sld (x := ex E (x3 + 2).toNatClampNeg) dL_law_657 hb rfl ?_
      refine J.less (bc' := bc + 0) (bs' := bs + 0) ?_ (by omega) (by omega)
      refine J.callV (M' := mX11_tell) (index := 65) (bc := bc) (bs := bs) (bc' := 0) (bs' := 0) (st := []) [.int (ex E (x3 + 1).toNatClampNeg), .int (ex E (x3 + 2).toNatClampNeg)] ml_L_65 cv_X11_tell dL_law_658 (lt0 hs) (kk0 hs) (by decide) rfl rfl rfl rfl (Nat.le_of_ble_eq_true rfl) (kqi hW (fun r60 I59 hW => ?_))
      refine J.aload_n dL_law_661 rfl rfl ?_
      refine J.aload_n dL_law_662 rfl rfl ?_
      refine J.iload_n dL_law_663 rfl rfl ?_
      refine J.iconst (v := 1) dL_law_664 (by decide) ?_
      refine J.iadd dL_law_665 ?_
      obtain ⟨hb, hW⟩ := hW
      refine J.sld (x := ex E (x3 + 1).toNatClampNeg) dL_law_666 hb rfl ?_
      refine J.aload_n dL_law_667 rfl rfl ?_
      refine J.iload_n dL_law_668 rfl rfl ?_
      refine J.iconst (v := 2) dL_law_669 (by decide) ?_
      refine J.iadd dL_law_670 ?_
      obtain ⟨hb, hW⟩ := hW
      refine J.sld (x := ex E (x3 + 2).toNatClampNeg) dL_law_671 hb rfl ?_
      refine J.callV (M' := mX12_tell) (index := 68) (bc := bc) (bs := bs) (bc' := 0) (bs' := 0) (st := [.int r60]) [.int (ex E (x3 + 1).toNatClampNeg), .int (ex E (x3 + 2).toNatClampNeg)] ml_L_68 cv_X12_tell dL_law_672 (lt83 hs) (kk83 hs) (by decide) rfl rfl rfl rfl (Nat.le_of_ble_eq_true rfl) (kqi hW (fun r62 I61 hW => ?_))
      refine J.ic_eq 1365 dL_law_675 (by decide) (fun hc63 => ?_) (fun hc63 => ?_)
      · have hW := hW.1 hc63
        refine J.iinc (v := x3 + 6) (vs' := [some (.ref (eb E)), some (.ref (eB E + 0)), some (.ref (eB E + 83)), some (.int (x3 + 6))]) dL_law_1365 rfl (by rfl) (by decide) rfl ?_
        refine J.goto 18 dL_law_1368 (by decide) ?_
        exact J.less (bc' := bc) (bs' := bs) hW (by omega) (by omega)
      · have hW := hW.2 hc63
        refine J.iconst (v := 0) dL_law_678 (by decide) ?_
        exact J.reti dL_law_679 rfl (bz_nar (Or.inl rfl)) hW
    by_cases hk208 : ((ex E x3.toNatClampNeg) &&& 63) = 12
    · have hW := hW.2.2.2.2.2.2.2.2.2.2.2.2.1 hk208
      refine J.tableIn (off := 647) 680 dL_law_33 (by rw [hk208] <;> decide) (by rw [hk208] <;> decide) (by rw [hk208] <;> rfl) (by decide) ?_
      refine J.aload_n dL_law_680 rfl rfl ?_
      refine J.aload_n dL_law_681 rfl rfl ?_
      refine J.iload_n dL_law_682 rfl rfl ?_
      refine J.iconst (v := 1) dL_law_683 (by decide) ?_
      refine J.iadd dL_law_684 ?_
      obtain ⟨hb, hW⟩ := hW
      refine J.sld (x := ex E (x3 + 1).toNatClampNeg) dL_law_685 hb rfl ?_
      refine J.aload_n dL_law_686 rfl rfl ?_
      refine J.iload_n dL_law_687 rfl rfl ?_
      refine J.iconst (v := 2) dL_law_688 (by decide) ?_
      refine J.iadd dL_law_689 ?_
      obtain ⟨hb, hW⟩ := hW
      refine J.sld (x := ex E (x3 + 2).toNatClampNeg) dL_law_690 hb rfl ?_
      refine J.less (bc' := bc + 0) (bs' := bs + 0) ?_ (by omega) (by omega)
      refine J.callV (M' := mX11_about) (index := 69) (bc := bc) (bs := bs) (bc' := 0) (bs' := 0) (st := []) [.int (ex E (x3 + 1).toNatClampNeg), .int (ex E (x3 + 2).toNatClampNeg)] ml_L_69 cv_X11_about dL_law_691 (lt0 hs) (kk0 hs) (by decide) rfl rfl rfl rfl (Nat.le_of_ble_eq_true rfl) (kqi hW (fun r65 I64 hW => ?_))
      refine J.aload_n dL_law_694 rfl rfl ?_
      refine J.aload_n dL_law_695 rfl rfl ?_
      refine J.iload_n dL_law_696 rfl rfl ?_
      refine J.iconst (v := 1) dL_law_697 (by decide) ?_
      refine J.iadd dL_law_698 ?_
      obtain ⟨hb, hW⟩ := hW
      refine J.sld (x := ex E (x3 + 1).toNatClampNeg) dL_law_699 hb rfl ?_
      refine J.aload_n dL_law_700 rfl rfl ?_
      refine J.iload_n dL_law_701 rfl rfl ?_
      refine J.iconst (v := 2) dL_law_702 (by decide) ?_
      refine J.iadd dL_law_703 ?_
      obtain ⟨hb, hW⟩ := hW
      refine J.sld (x := ex E (x3 + 2).toNatClampNeg) dL_law_704 hb rfl ?_
      refine J.callV (M' := mX12_about) (index := 72) (bc := bc) (bs := bs) (bc' := 0) (bs' := 0) (st := [.int r65]) [.int (ex E (x3 + 1).toNatClampNeg), .int (ex E (x3 + 2).toNatClampNeg)] ml_L_72 cv_X12_about dL_law_705 (lt83 hs) (kk83 hs) (by decide) rfl rfl rfl rfl (Nat.le_of_ble_eq_true rfl) (kqi hW (fun r67 I66 hW => ?_))
      refine J.ic_eq 1365 dL_law_708 (by decide) (fun hc68 => ?_) (fun hc68 => ?_)
      · have hW := hW.1 hc68
        refine J.iinc (v := x3 + 6) (vs' := [some (.ref (eb E)), some (.ref (eB E + 0)), some (.ref (eB E + 83)), some (.int (x3 + 6))]) dL_law_1365 rfl (by rfl) (by decide) rfl ?_
        refine J.goto 18 dL_law_1368 (by decide) ?_
        exact J.less (bc' := bc) (bs' := bs) hW (by omega) (by omega)
      · have hW := hW.2 hc68
        refine J.iconst (v := 0) dL_law_711 (by decide) ?_
        exact J.reti dL_law_712 rfl (bz_nar (Or.inl rfl)) hW
    by_cases hk209 : ((ex E x3.toNatClampNeg) &&& 63) = 13
    · have hW := hW.2.2.2.2.2.2.2.2.2.2.2.2.2.1 hk209
      refine J.tableIn (off := 680) 713 dL_law_33 (by rw [hk209] <;> decide) (by rw [hk209] <;> decide) (by rw [hk209] <;> rfl) (by decide) ?_
      refine J.aload_n dL_law_713 rfl rfl ?_
      refine J.aload_n dL_law_714 rfl rfl ?_
      refine J.iload_n dL_law_715 rfl rfl ?_
      refine J.iconst (v := 1) dL_law_716 (by decide) ?_
      refine J.iadd dL_law_717 ?_
      obtain ⟨hb, hW⟩ := hW
      refine J.sld (x := ex E (x3 + 1).toNatClampNeg) dL_law_718 hb rfl ?_
      refine J.aload_n dL_law_719 rfl rfl ?_
      refine J.iload_n dL_law_720 rfl rfl ?_
      refine J.iconst (v := 2) dL_law_721 (by decide) ?_
      refine J.iadd dL_law_722 ?_
      obtain ⟨hb, hW⟩ := hW
      refine J.sld (x := ex E (x3 + 2).toNatClampNeg) dL_law_723 hb rfl ?_
      refine J.aload_n dL_law_724 rfl rfl ?_
      refine J.iload_n dL_law_725 rfl rfl ?_
      refine J.iconst (v := 3) dL_law_726 (by decide) ?_
      refine J.iadd dL_law_727 ?_
      obtain ⟨hb, hW⟩ := hW
      refine J.sld (x := ex E (x3 + 3).toNatClampNeg) dL_law_728 hb rfl ?_
      refine J.aload_n dL_law_729 rfl rfl ?_
      refine J.iload_n dL_law_730 rfl rfl ?_
      refine J.iconst (v := 4) dL_law_731 (by decide) ?_
      refine J.iadd dL_law_732 ?_
      obtain ⟨hb, hW⟩ := hW
      refine J.sld (x := ex E (x3 + 4).toNatClampNeg) dL_law_733 hb rfl ?_
      refine J.aload_n dL_law_734 rfl rfl ?_
      refine J.iload_n dL_law_735 rfl rfl ?_
      refine J.iconst (v := 5) dL_law_736 (by decide) ?_
      refine J.iadd dL_law_737 ?_
      obtain ⟨hb, hW⟩ := hW
      refine J.sld (x := ex E (x3 + 5).toNatClampNeg) dL_law_738 hb rfl ?_
      refine J.less (bc' := bc + 0) (bs' := bs + 0) ?_ (by omega) (by omega)
      refine J.callV (M' := mX11_feed) (index := 73) (bc := bc) (bs := bs) (bc' := 0) (bs' := 0) (st := []) [.int (ex E (x3 + 1).toNatClampNeg), .int (ex E (x3 + 2).toNatClampNeg), .int (ex E (x3 + 3).toNatClampNeg), .int (ex E (x3 + 4).toNatClampNeg), .int (ex E (x3 + 5).toNatClampNeg)] ml_L_73 cv_X11_feed dL_law_739 (lt0 hs) (kk0 hs) (by decide) rfl rfl rfl rfl (Nat.le_of_ble_eq_true rfl) (kqi hW (fun r70 I69 hW => ?_))
      refine J.aload_n dL_law_742 rfl rfl ?_
      refine J.aload_n dL_law_743 rfl rfl ?_
      refine J.iload_n dL_law_744 rfl rfl ?_
      refine J.iconst (v := 1) dL_law_745 (by decide) ?_
      refine J.iadd dL_law_746 ?_
      obtain ⟨hb, hW⟩ := hW
      refine J.sld (x := ex E (x3 + 1).toNatClampNeg) dL_law_747 hb rfl ?_
      refine J.aload_n dL_law_748 rfl rfl ?_
      refine J.iload_n dL_law_749 rfl rfl ?_
      refine J.iconst (v := 2) dL_law_750 (by decide) ?_
      refine J.iadd dL_law_751 ?_
      obtain ⟨hb, hW⟩ := hW
      refine J.sld (x := ex E (x3 + 2).toNatClampNeg) dL_law_752 hb rfl ?_
      refine J.aload_n dL_law_753 rfl rfl ?_
      refine J.iload_n dL_law_754 rfl rfl ?_
      refine J.iconst (v := 3) dL_law_755 (by decide) ?_
      refine J.iadd dL_law_756 ?_
      obtain ⟨hb, hW⟩ := hW
      refine J.sld (x := ex E (x3 + 3).toNatClampNeg) dL_law_757 hb rfl ?_
      refine J.aload_n dL_law_758 rfl rfl ?_
      refine J.iload_n dL_law_759 rfl rfl ?_
      refine J.iconst (v := 4) dL_law_760 (by decide) ?_
      refine J.iadd dL_law_761 ?_
      obtain ⟨hb, hW⟩ := hW
      refine J.sld (x := ex E (x3 + 4).toNatClampNeg) dL_law_762 hb rfl ?_
      refine J.aload_n dL_law_763 rfl rfl ?_
      refine J.iload_n dL_law_764 rfl rfl ?_
      refine J.iconst (v := 5) dL_law_765 (by decide) ?_
      refine J.iadd dL_law_766 ?_
      obtain ⟨hb, hW⟩ := hW
      refine J.sld (x := ex E (x3 + 5).toNatClampNeg) dL_law_767 hb rfl ?_
      refine J.callV (M' := mX12_feed) (index := 76) (bc := bc) (bs := bs) (bc' := 0) (bs' := 0) (st := [.int r70]) [.int (ex E (x3 + 1).toNatClampNeg), .int (ex E (x3 + 2).toNatClampNeg), .int (ex E (x3 + 3).toNatClampNeg), .int (ex E (x3 + 4).toNatClampNeg), .int (ex E (x3 + 5).toNatClampNeg)] ml_L_76 cv_X12_feed dL_law_768 (lt83 hs) (kk83 hs) (by decide) rfl rfl rfl rfl (Nat.le_of_ble_eq_true rfl) (kqi hW (fun r72 I71 hW => ?_))
      refine J.ic_eq 1365 dL_law_771 (by decide) (fun hc73 => ?_) (fun hc73 => ?_)
      · have hW := hW.1 hc73
        refine J.iinc (v := x3 + 6) (vs' := [some (.ref (eb E)), some (.ref (eB E + 0)), some (.ref (eB E + 83)), some (.int (x3 + 6))]) dL_law_1365 rfl (by rfl) (by decide) rfl ?_
        refine J.goto 18 dL_law_1368 (by decide) ?_
        exact J.less (bc' := bc) (bs' := bs) hW (by omega) (by omega)
      · have hW := hW.2 hc73
        refine J.iconst (v := 0) dL_law_774 (by decide) ?_
        exact J.reti dL_law_775 rfl (bz_nar (Or.inl rfl)) hW
    by_cases hk210 : ((ex E x3.toNatClampNeg) &&& 63) = 14
    · have hW := hW.2.2.2.2.2.2.2.2.2.2.2.2.2.2.1 hk210
      refine J.tableIn (off := 743) 776 dL_law_33 (by rw [hk210] <;> decide) (by rw [hk210] <;> decide) (by rw [hk210] <;> rfl) (by decide) ?_
      refine J.aload_n dL_law_776 rfl rfl ?_
      refine J.aload_n dL_law_777 rfl rfl ?_
      refine J.iload_n dL_law_778 rfl rfl ?_
      refine J.iconst (v := 1) dL_law_779 (by decide) ?_
      refine J.iadd dL_law_780 ?_
      obtain ⟨hb, hW⟩ := hW
      refine J.sld (x := ex E (x3 + 1).toNatClampNeg) dL_law_781 hb rfl ?_
      refine J.less (bc' := bc + 0) (bs' := bs + 0) ?_ (by omega) (by omega)
      refine J.callV (M' := mX11_end) (index := 77) (bc := bc) (bs := bs) (bc' := 0) (bs' := 0) (st := []) [.int (ex E (x3 + 1).toNatClampNeg)] ml_L_77 cv_X11_end dL_law_782 (lt0 hs) (kk0 hs) (by decide) rfl rfl rfl rfl (Nat.le_of_ble_eq_true rfl) (kqi hW (fun r75 I74 hW => ?_))
      refine J.aload_n dL_law_785 rfl rfl ?_
      refine J.aload_n dL_law_786 rfl rfl ?_
      refine J.iload_n dL_law_787 rfl rfl ?_
      refine J.iconst (v := 1) dL_law_788 (by decide) ?_
      refine J.iadd dL_law_789 ?_
      obtain ⟨hb, hW⟩ := hW
      refine J.sld (x := ex E (x3 + 1).toNatClampNeg) dL_law_790 hb rfl ?_
      refine J.callV (M' := mX12_end) (index := 81) (bc := bc) (bs := bs) (bc' := 0) (bs' := 0) (st := [.int r75]) [.int (ex E (x3 + 1).toNatClampNeg)] ml_L_81 cv_X12_end dL_law_791 (lt83 hs) (kk83 hs) (by decide) rfl rfl rfl rfl (Nat.le_of_ble_eq_true rfl) (kqi hW (fun r77 I76 hW => ?_))
      refine J.ic_eq 1365 dL_law_794 (by decide) (fun hc78 => ?_) (fun hc78 => ?_)
      · have hW := hW.1 hc78
        refine J.iinc (v := x3 + 6) (vs' := [some (.ref (eb E)), some (.ref (eB E + 0)), some (.ref (eB E + 83)), some (.int (x3 + 6))]) dL_law_1365 rfl (by rfl) (by decide) rfl ?_
        refine J.goto 18 dL_law_1368 (by decide) ?_
        exact J.less (bc' := bc) (bs' := bs) hW (by omega) (by omega)
      · have hW := hW.2 hc78
        refine J.iconst (v := 0) dL_law_797 (by decide) ?_
        exact J.reti dL_law_798 rfl (bz_nar (Or.inl rfl)) hW
    by_cases hk211 : ((ex E x3.toNatClampNeg) &&& 63) = 15
    · have hW := hW.2.2.2.2.2.2.2.2.2.2.2.2.2.2.2.1 hk211
      refine J.tableIn (off := 766) 799 dL_law_33 (by rw [hk211] <;> decide) (by rw [hk211] <;> decide) (by rw [hk211] <;> rfl) (by decide) ?_
      refine J.aload_n dL_law_799 rfl rfl ?_
      refine J.aload_n dL_law_800 rfl rfl ?_
      refine J.iload_n dL_law_801 rfl rfl ?_
      refine J.iconst (v := 1) dL_law_802 (by decide) ?_
      refine J.iadd dL_law_803 ?_
      obtain ⟨hb, hW⟩ := hW
      refine J.sld (x := ex E (x3 + 1).toNatClampNeg) dL_law_804 hb rfl ?_
      refine J.less (bc' := bc + 8) (bs' := bs + 400) ?_ (by omega) (by omega)
      refine J.callV (M' := mX11_text) (index := 82) (bc := bc) (bs := bs) (bc' := 8) (bs' := 400) (st := []) [.int (ex E (x3 + 1).toNatClampNeg)] ml_L_82 cv_X11_text dL_law_805 (lt0 hs) (kk0 hs) (by decide) rfl rfl rfl rfl (Nat.le_of_ble_eq_true rfl) (kgi hW (fun r83 h79 I80 L81 hW => ?_))
      obtain ⟨hs82, hW⟩ := hW
      refine J.aload_n dL_law_808 rfl rfl ?_
      refine J.aload_n dL_law_809 rfl rfl ?_
      refine J.iload_n dL_law_810 rfl rfl ?_
      refine J.iconst (v := 1) dL_law_811 (by decide) ?_
      refine J.iadd dL_law_812 ?_
      obtain ⟨hb, hW⟩ := hW
      refine J.sld (x := ex E (x3 + 1).toNatClampNeg) dL_law_813 hb rfl ?_
      refine J.callV (M' := mX12_text) (index := 85) (bc := bc) (bs := bs) (bc' := 0) (bs' := 0) (st := [.int r83]) [.int (ex E (x3 + 1).toNatClampNeg)] ml_L_85 cv_X12_text dL_law_814 (lt83 hs82) (kk83 hs82) (by decide) rfl rfl rfl rfl (Nat.le_of_ble_eq_true rfl) (kqiL hW (fun r86 I84 L85 hW => ?_))
      refine J.ic_eq 1365 dL_law_817 (by decide) (fun hc87 => ?_) (fun hc87 => ?_)
      · have hW := hW.1 hc87
        refine J.iinc (v := x3 + 6) (vs' := [some (.ref (eb E)), some (.ref (eB E + 0)), some (.ref (eB E + 83)), some (.int (x3 + 6))]) dL_law_1365 rfl (by rfl) (by decide) rfl ?_
        refine J.goto 18 dL_law_1368 (by decide) ?_
        exact J.less (bc' := bc) (bs' := bs) hW (by omega) (by omega)
      · have hW := hW.2 hc87
        refine J.iconst (v := 0) dL_law_820 (by decide) ?_
        exact J.reti dL_law_821 rfl (bz_nar (Or.inl rfl)) hW
    by_cases hk212 : ((ex E x3.toNatClampNeg) &&& 63) = 16
    · have hW := hW.2.2.2.2.2.2.2.2.2.2.2.2.2.2.2.2.1 hk212
      refine J.tableIn (off := 789) 822 dL_law_33 (by rw [hk212] <;> decide) (by rw [hk212] <;> decide) (by rw [hk212] <;> rfl) (by decide) ?_
      refine J.aload_n dL_law_822 rfl rfl ?_
      refine J.aload_n dL_law_823 rfl rfl ?_
      refine J.iload_n dL_law_824 rfl rfl ?_
      refine J.iconst (v := 1) dL_law_825 (by decide) ?_
      refine J.iadd dL_law_826 ?_
      obtain ⟨hb, hW⟩ := hW
      refine J.sld (x := ex E (x3 + 1).toNatClampNeg) dL_law_827 hb rfl ?_
      refine J.less (bc' := bc + 0) (bs' := bs + 0) ?_ (by omega) (by omega)
      refine J.callV (M' := mX11_fault) (index := 86) (bc := bc) (bs := bs) (bc' := 0) (bs' := 0) (st := []) [.int (ex E (x3 + 1).toNatClampNeg)] ml_L_86 cv_X11_fault dL_law_828 (lt0 hs) (kk0 hs) (by decide) rfl rfl rfl rfl (Nat.le_of_ble_eq_true rfl) (kqi hW (fun r89 I88 hW => ?_))
      refine J.aload_n dL_law_831 rfl rfl ?_
      refine J.aload_n dL_law_832 rfl rfl ?_
      refine J.iload_n dL_law_833 rfl rfl ?_
      refine J.iconst (v := 1) dL_law_834 (by decide) ?_
      refine J.iadd dL_law_835 ?_
      obtain ⟨hb, hW⟩ := hW
      refine J.sld (x := ex E (x3 + 1).toNatClampNeg) dL_law_836 hb rfl ?_
      refine J.callV (M' := mX12_fault) (index := 89) (bc := bc) (bs := bs) (bc' := 0) (bs' := 0) (st := [.int r89]) [.int (ex E (x3 + 1).toNatClampNeg)] ml_L_89 cv_X12_fault dL_law_837 (lt83 hs) (kk83 hs) (by decide) rfl rfl rfl rfl (Nat.le_of_ble_eq_true rfl) (kqi hW (fun r91 I90 hW => ?_))
      refine J.ic_eq 1365 dL_law_840 (by decide) (fun hc92 => ?_) (fun hc92 => ?_)
      · have hW := hW.1 hc92
        refine J.iinc (v := x3 + 6) (vs' := [some (.ref (eb E)), some (.ref (eB E + 0)), some (.ref (eB E + 83)), some (.int (x3 + 6))]) dL_law_1365 rfl (by rfl) (by decide) rfl ?_
        refine J.goto 18 dL_law_1368 (by decide) ?_
        exact J.less (bc' := bc) (bs' := bs) hW (by omega) (by omega)
      · have hW := hW.2 hc92
        refine J.iconst (v := 0) dL_law_843 (by decide) ?_
        exact J.reti dL_law_844 rfl (bz_nar (Or.inl rfl)) hW
    by_cases hk213 : ((ex E x3.toNatClampNeg) &&& 63) = 17
    · have hW := hW.2.2.2.2.2.2.2.2.2.2.2.2.2.2.2.2.2.1 hk213
      refine J.tableIn (off := 812) 845 dL_law_33 (by rw [hk213] <;> decide) (by rw [hk213] <;> decide) (by rw [hk213] <;> rfl) (by decide) ?_
      refine J.aload_n dL_law_845 rfl rfl ?_
      refine J.aload_n dL_law_846 rfl rfl ?_
      refine J.iload_n dL_law_847 rfl rfl ?_
      refine J.iconst (v := 1) dL_law_848 (by decide) ?_
      refine J.iadd dL_law_849 ?_
      obtain ⟨hb, hW⟩ := hW
      refine J.sld (x := ex E (x3 + 1).toNatClampNeg) dL_law_850 hb rfl ?_
      refine J.aload_n dL_law_851 rfl rfl ?_
      refine J.iload_n dL_law_852 rfl rfl ?_
      refine J.iconst (v := 2) dL_law_853 (by decide) ?_
      refine J.iadd dL_law_854 ?_
      obtain ⟨hb, hW⟩ := hW
      refine J.sld (x := ex E (x3 + 2).toNatClampNeg) dL_law_855 hb rfl ?_
      refine J.aload_n dL_law_856 rfl rfl ?_
      refine J.iload_n dL_law_857 rfl rfl ?_
      refine J.iconst (v := 3) dL_law_858 (by decide) ?_
      refine J.iadd dL_law_859 ?_
      obtain ⟨hb, hW⟩ := hW
      refine J.sld (x := ex E (x3 + 3).toNatClampNeg) dL_law_860 hb rfl ?_
      refine J.aload_n dL_law_861 rfl rfl ?_
      refine J.iload_n dL_law_862 rfl rfl ?_
      refine J.iconst (v := 4) dL_law_863 (by decide) ?_
      refine J.iadd dL_law_864 ?_
      obtain ⟨hb, hW⟩ := hW
      refine J.sld (x := ex E (x3 + 4).toNatClampNeg) dL_law_865 hb rfl ?_
      refine J.less (bc' := bc + 0) (bs' := bs + 0) ?_ (by omega) (by omega)
      refine J.callV (M' := mX11_read) (index := 90) (bc := bc) (bs := bs) (bc' := 0) (bs' := 0) (st := []) [.int (ex E (x3 + 1).toNatClampNeg), .int (ex E (x3 + 2).toNatClampNeg), .int (ex E (x3 + 3).toNatClampNeg), .int (ex E (x3 + 4).toNatClampNeg)] ml_L_90 cv_X11_read dL_law_866 (lt0 hs) (kk0 hs) (by decide) rfl rfl rfl rfl (Nat.le_of_ble_eq_true rfl) (kqi hW (fun r94 I93 hW => ?_))
      refine J.aload_n dL_law_869 rfl rfl ?_
      refine J.aload_n dL_law_870 rfl rfl ?_
      refine J.iload_n dL_law_871 rfl rfl ?_
      refine J.iconst (v := 1) dL_law_872 (by decide) ?_
      refine J.iadd dL_law_873 ?_
      obtain ⟨hb, hW⟩ := hW
      refine J.sld (x := ex E (x3 + 1).toNatClampNeg) dL_law_874 hb rfl ?_
      refine J.aload_n dL_law_875 rfl rfl ?_
      refine J.iload_n dL_law_876 rfl rfl ?_
      refine J.iconst (v := 2) dL_law_877 (by decide) ?_
      refine J.iadd dL_law_878 ?_
      obtain ⟨hb, hW⟩ := hW
      refine J.sld (x := ex E (x3 + 2).toNatClampNeg) dL_law_879 hb rfl ?_
      refine J.aload_n dL_law_880 rfl rfl ?_
      refine J.iload_n dL_law_881 rfl rfl ?_
      refine J.iconst (v := 3) dL_law_882 (by decide) ?_
      refine J.iadd dL_law_883 ?_
      obtain ⟨hb, hW⟩ := hW
      refine J.sld (x := ex E (x3 + 3).toNatClampNeg) dL_law_884 hb rfl ?_
      refine J.aload_n dL_law_885 rfl rfl ?_
      refine J.iload_n dL_law_886 rfl rfl ?_
      refine J.iconst (v := 4) dL_law_887 (by decide) ?_
      refine J.iadd dL_law_888 ?_
      obtain ⟨hb, hW⟩ := hW
      refine J.sld (x := ex E (x3 + 4).toNatClampNeg) dL_law_889 hb rfl ?_
      refine J.callV (M' := mX12_read) (index := 93) (bc := bc) (bs := bs) (bc' := 0) (bs' := 0) (st := [.int r94]) [.int (ex E (x3 + 1).toNatClampNeg), .int (ex E (x3 + 2).toNatClampNeg), .int (ex E (x3 + 3).toNatClampNeg), .int (ex E (x3 + 4).toNatClampNeg)] ml_L_93 cv_X12_read dL_law_890 (lt83 hs) (kk83 hs) (by decide) rfl rfl rfl rfl (Nat.le_of_ble_eq_true rfl) (kqi hW (fun r96 I95 hW => ?_))
      refine J.ic_eq 1365 dL_law_893 (by decide) (fun hc97 => ?_) (fun hc97 => ?_)
      · have hW := hW.1 hc97
        refine J.iinc (v := x3 + 6) (vs' := [some (.ref (eb E)), some (.ref (eB E + 0)), some (.ref (eB E + 83)), some (.int (x3 + 6))]) dL_law_1365 rfl (by rfl) (by decide) rfl ?_
        refine J.goto 18 dL_law_1368 (by decide) ?_
        exact J.less (bc' := bc) (bs' := bs) hW (by omega) (by omega)
      · have hW := hW.2 hc97
        refine J.iconst (v := 0) dL_law_896 (by decide) ?_
        exact J.reti dL_law_897 rfl (bz_nar (Or.inl rfl)) hW
    by_cases hk214 : ((ex E x3.toNatClampNeg) &&& 63) = 18
    · have hW := hW.2.2.2.2.2.2.2.2.2.2.2.2.2.2.2.2.2.2.1 hk214
      refine J.tableIn (off := 865) 898 dL_law_33 (by rw [hk214] <;> decide) (by rw [hk214] <;> decide) (by rw [hk214] <;> rfl) (by decide) ?_
      refine J.aload_n dL_law_898 rfl rfl ?_
      refine J.aload_n dL_law_899 rfl rfl ?_
      refine J.iload_n dL_law_900 rfl rfl ?_
      refine J.iconst (v := 1) dL_law_901 (by decide) ?_
      refine J.iadd dL_law_902 ?_
      obtain ⟨hb, hW⟩ := hW
      refine J.sld (x := ex E (x3 + 1).toNatClampNeg) dL_law_903 hb rfl ?_
      refine J.aload_n dL_law_904 rfl rfl ?_
      refine J.iload_n dL_law_905 rfl rfl ?_
      refine J.iconst (v := 2) dL_law_906 (by decide) ?_
      refine J.iadd dL_law_907 ?_
      obtain ⟨hb, hW⟩ := hW
      refine J.sld (x := ex E (x3 + 2).toNatClampNeg) dL_law_908 hb rfl ?_
      refine J.less (bc' := bc + 0) (bs' := bs + 0) ?_ (by omega) (by omega)
      refine J.callV (M' := mX11_may) (index := 94) (bc := bc) (bs := bs) (bc' := 0) (bs' := 0) (st := []) [.int (ex E (x3 + 1).toNatClampNeg), .int (ex E (x3 + 2).toNatClampNeg)] ml_L_94 cv_X11_may dL_law_909 (lt0 hs) (kk0 hs) (by decide) rfl rfl rfl rfl (Nat.le_of_ble_eq_true rfl) (kqi hW (fun r99 I98 hW => ?_))
      refine J.aload_n dL_law_912 rfl rfl ?_
      refine J.aload_n dL_law_913 rfl rfl ?_
      refine J.iload_n dL_law_914 rfl rfl ?_
      refine J.iconst (v := 1) dL_law_915 (by decide) ?_
      refine J.iadd dL_law_916 ?_
      obtain ⟨hb, hW⟩ := hW
      refine J.sld (x := ex E (x3 + 1).toNatClampNeg) dL_law_917 hb rfl ?_
      refine J.aload_n dL_law_918 rfl rfl ?_
      refine J.iload_n dL_law_919 rfl rfl ?_
      refine J.iconst (v := 2) dL_law_920 (by decide) ?_
      refine J.iadd dL_law_921 ?_
      obtain ⟨hb, hW⟩ := hW
      refine J.sld (x := ex E (x3 + 2).toNatClampNeg) dL_law_922 hb rfl ?_
      refine J.callV (M' := mX12_may) (index := 98) (bc := bc) (bs := bs) (bc' := 0) (bs' := 0) (st := [.int r99]) [.int (ex E (x3 + 1).toNatClampNeg), .int (ex E (x3 + 2).toNatClampNeg)] ml_L_98 cv_X12_may dL_law_923 (lt83 hs) (kk83 hs) (by decide) rfl rfl rfl rfl (Nat.le_of_ble_eq_true rfl) (kqi hW (fun r101 I100 hW => ?_))
      refine J.ic_eq 1365 dL_law_926 (by decide) (fun hc102 => ?_) (fun hc102 => ?_)
      · have hW := hW.1 hc102
        refine J.iinc (v := x3 + 6) (vs' := [some (.ref (eb E)), some (.ref (eB E + 0)), some (.ref (eB E + 83)), some (.int (x3 + 6))]) dL_law_1365 rfl (by rfl) (by decide) rfl ?_
        refine J.goto 18 dL_law_1368 (by decide) ?_
        exact J.less (bc' := bc) (bs' := bs) hW (by omega) (by omega)
      · have hW := hW.2 hc102
        refine J.iconst (v := 0) dL_law_929 (by decide) ?_
        exact J.reti dL_law_930 rfl (bz_nar (Or.inl rfl)) hW
    by_cases hk215 : ((ex E x3.toNatClampNeg) &&& 63) = 19
    · have hW := hW.2.2.2.2.2.2.2.2.2.2.2.2.2.2.2.2.2.2.2.1 hk215
      refine J.tableIn (off := 898) 931 dL_law_33 (by rw [hk215] <;> decide) (by rw [hk215] <;> decide) (by rw [hk215] <;> rfl) (by decide) ?_
      refine J.aload_n dL_law_931 rfl rfl ?_
      refine J.aload_n dL_law_932 rfl rfl ?_
      refine J.iload_n dL_law_933 rfl rfl ?_
      refine J.iconst (v := 1) dL_law_934 (by decide) ?_
      refine J.iadd dL_law_935 ?_
      obtain ⟨hb, hW⟩ := hW
      refine J.sld (x := ex E (x3 + 1).toNatClampNeg) dL_law_936 hb rfl ?_
      refine J.aload_n dL_law_937 rfl rfl ?_
      refine J.iload_n dL_law_938 rfl rfl ?_
      refine J.iconst (v := 2) dL_law_939 (by decide) ?_
      refine J.iadd dL_law_940 ?_
      obtain ⟨hb, hW⟩ := hW
      refine J.sld (x := ex E (x3 + 2).toNatClampNeg) dL_law_941 hb rfl ?_
      refine J.less (bc' := bc + 0) (bs' := bs + 0) ?_ (by omega) (by omega)
      refine J.callV (M' := mX11_liking) (index := 99) (bc := bc) (bs := bs) (bc' := 0) (bs' := 0) (st := []) [.int (ex E (x3 + 1).toNatClampNeg), .int (ex E (x3 + 2).toNatClampNeg)] ml_L_99 cv_X11_liking dL_law_942 (lt0 hs) (kk0 hs) (by decide) rfl rfl rfl rfl (Nat.le_of_ble_eq_true rfl) (kqi hW (fun r104 I103 hW => ?_))
      refine J.aload_n dL_law_945 rfl rfl ?_
      refine J.aload_n dL_law_946 rfl rfl ?_
      refine J.iload_n dL_law_947 rfl rfl ?_
      refine J.iconst (v := 1) dL_law_948 (by decide) ?_
      refine J.iadd dL_law_949 ?_
      obtain ⟨hb, hW⟩ := hW
      refine J.sld (x := ex E (x3 + 1).toNatClampNeg) dL_law_950 hb rfl ?_
      refine J.aload_n dL_law_951 rfl rfl ?_
      refine J.iload_n dL_law_952 rfl rfl ?_
      refine J.iconst (v := 2) dL_law_953 (by decide) ?_
      refine J.iadd dL_law_954 ?_
      obtain ⟨hb, hW⟩ := hW
      refine J.sld (x := ex E (x3 + 2).toNatClampNeg) dL_law_955 hb rfl ?_
      refine J.callV (M' := mX12_liking) (index := 102) (bc := bc) (bs := bs) (bc' := 0) (bs' := 0) (st := [.int r104]) [.int (ex E (x3 + 1).toNatClampNeg), .int (ex E (x3 + 2).toNatClampNeg)] ml_L_102 cv_X12_liking dL_law_956 (lt83 hs) (kk83 hs) (by decide) rfl rfl rfl rfl (Nat.le_of_ble_eq_true rfl) (kqi hW (fun r106 I105 hW => ?_))
      refine J.ic_eq 1365 dL_law_959 (by decide) (fun hc107 => ?_) (fun hc107 => ?_)
      · have hW := hW.1 hc107
        refine J.iinc (v := x3 + 6) (vs' := [some (.ref (eb E)), some (.ref (eB E + 0)), some (.ref (eB E + 83)), some (.int (x3 + 6))]) dL_law_1365 rfl (by rfl) (by decide) rfl ?_
        refine J.goto 18 dL_law_1368 (by decide) ?_
        exact J.less (bc' := bc) (bs' := bs) hW (by omega) (by omega)
      · have hW := hW.2 hc107
        refine J.iconst (v := 0) dL_law_962 (by decide) ?_
        exact J.reti dL_law_963 rfl (bz_nar (Or.inl rfl)) hW
    by_cases hk216 : ((ex E x3.toNatClampNeg) &&& 63) = 20
    · have hW := hW.2.2.2.2.2.2.2.2.2.2.2.2.2.2.2.2.2.2.2.2.1 hk216
      refine J.tableIn (off := 931) 964 dL_law_33 (by rw [hk216] <;> decide) (by rw [hk216] <;> decide) (by rw [hk216] <;> rfl) (by decide) ?_
      refine J.aload_n dL_law_964 rfl rfl ?_
      refine J.aload_n dL_law_965 rfl rfl ?_
      refine J.iload_n dL_law_966 rfl rfl ?_
      refine J.iconst (v := 1) dL_law_967 (by decide) ?_
      refine J.iadd dL_law_968 ?_
      obtain ⟨hb, hW⟩ := hW
      refine J.sld (x := ex E (x3 + 1).toNatClampNeg) dL_law_969 hb rfl ?_
      refine J.aload_n dL_law_970 rfl rfl ?_
      refine J.iload_n dL_law_971 rfl rfl ?_
      refine J.iconst (v := 2) dL_law_972 (by decide) ?_
      refine J.iadd dL_law_973 ?_
      obtain ⟨hb, hW⟩ := hW
      refine J.sld (x := ex E (x3 + 2).toNatClampNeg) dL_law_974 hb rfl ?_
      refine J.less (bc' := bc + 0) (bs' := bs + 0) ?_ (by omega) (by omega)
      refine J.callV (M' := mX11_ask) (index := 103) (bc := bc) (bs := bs) (bc' := 0) (bs' := 0) (st := []) [.int (ex E (x3 + 1).toNatClampNeg), .int (ex E (x3 + 2).toNatClampNeg)] ml_L_103 cv_X11_ask dL_law_975 (lt0 hs) (kk0 hs) (by decide) rfl rfl rfl rfl (Nat.le_of_ble_eq_true rfl) (kqi hW (fun r109 I108 hW => ?_))
      refine J.aload_n dL_law_978 rfl rfl ?_
      refine J.aload_n dL_law_979 rfl rfl ?_
      refine J.iload_n dL_law_980 rfl rfl ?_
      refine J.iconst (v := 1) dL_law_981 (by decide) ?_
      refine J.iadd dL_law_982 ?_
      obtain ⟨hb, hW⟩ := hW
      refine J.sld (x := ex E (x3 + 1).toNatClampNeg) dL_law_983 hb rfl ?_
      refine J.aload_n dL_law_984 rfl rfl ?_
      refine J.iload_n dL_law_985 rfl rfl ?_
      refine J.iconst (v := 2) dL_law_986 (by decide) ?_
      refine J.iadd dL_law_987 ?_
      obtain ⟨hb, hW⟩ := hW
      refine J.sld (x := ex E (x3 + 2).toNatClampNeg) dL_law_988 hb rfl ?_
      refine J.callV (M' := mX12_ask) (index := 106) (bc := bc) (bs := bs) (bc' := 0) (bs' := 0) (st := [.int r109]) [.int (ex E (x3 + 1).toNatClampNeg), .int (ex E (x3 + 2).toNatClampNeg)] ml_L_106 cv_X12_ask dL_law_989 (lt83 hs) (kk83 hs) (by decide) rfl rfl rfl rfl (Nat.le_of_ble_eq_true rfl) (kqi hW (fun r111 I110 hW => ?_))
      refine J.ic_eq 1365 dL_law_992 (by decide) (fun hc112 => ?_) (fun hc112 => ?_)
      · have hW := hW.1 hc112
        refine J.iinc (v := x3 + 6) (vs' := [some (.ref (eb E)), some (.ref (eB E + 0)), some (.ref (eB E + 83)), some (.int (x3 + 6))]) dL_law_1365 rfl (by rfl) (by decide) rfl ?_
        refine J.goto 18 dL_law_1368 (by decide) ?_
        exact J.less (bc' := bc) (bs' := bs) hW (by omega) (by omega)
      · have hW := hW.2 hc112
        refine J.iconst (v := 0) dL_law_995 (by decide) ?_
        exact J.reti dL_law_996 rfl (bz_nar (Or.inl rfl)) hW
    by_cases hk217 : ((ex E x3.toNatClampNeg) &&& 63) = 21
    · have hW := hW.2.2.2.2.2.2.2.2.2.2.2.2.2.2.2.2.2.2.2.2.2.1 hk217
      refine J.tableIn (off := 964) 997 dL_law_33 (by rw [hk217] <;> decide) (by rw [hk217] <;> decide) (by rw [hk217] <;> rfl) (by decide) ?_
      refine J.aload_n dL_law_997 rfl rfl ?_
      refine J.aload_n dL_law_998 rfl rfl ?_
      refine J.iload_n dL_law_999 rfl rfl ?_
      refine J.iconst (v := 1) dL_law_1000 (by decide) ?_
      refine J.iadd dL_law_1001 ?_
      obtain ⟨hb, hW⟩ := hW
      refine J.sld (x := ex E (x3 + 1).toNatClampNeg) dL_law_1002 hb rfl ?_
      refine J.less (bc' := bc + 0) (bs' := bs + 0) ?_ (by omega) (by omega)
      refine J.callV (M' := mX11_promise) (index := 107) (bc := bc) (bs := bs) (bc' := 0) (bs' := 0) (st := []) [.int (ex E (x3 + 1).toNatClampNeg)] ml_L_107 cv_X11_promise dL_law_1003 (lt0 hs) (kk0 hs) (by decide) rfl rfl rfl rfl (Nat.le_of_ble_eq_true rfl) (kqi hW (fun r114 I113 hW => ?_))
      refine J.aload_n dL_law_1006 rfl rfl ?_
      refine J.aload_n dL_law_1007 rfl rfl ?_
      refine J.iload_n dL_law_1008 rfl rfl ?_
      refine J.iconst (v := 1) dL_law_1009 (by decide) ?_
      refine J.iadd dL_law_1010 ?_
      obtain ⟨hb, hW⟩ := hW
      refine J.sld (x := ex E (x3 + 1).toNatClampNeg) dL_law_1011 hb rfl ?_
      refine J.callV (M' := mX12_promise) (index := 110) (bc := bc) (bs := bs) (bc' := 0) (bs' := 0) (st := [.int r114]) [.int (ex E (x3 + 1).toNatClampNeg)] ml_L_110 cv_X12_promise dL_law_1012 (lt83 hs) (kk83 hs) (by decide) rfl rfl rfl rfl (Nat.le_of_ble_eq_true rfl) (kqi hW (fun r116 I115 hW => ?_))
      refine J.ic_eq 1365 dL_law_1015 (by decide) (fun hc117 => ?_) (fun hc117 => ?_)
      · have hW := hW.1 hc117
        refine J.iinc (v := x3 + 6) (vs' := [some (.ref (eb E)), some (.ref (eB E + 0)), some (.ref (eB E + 83)), some (.int (x3 + 6))]) dL_law_1365 rfl (by rfl) (by decide) rfl ?_
        refine J.goto 18 dL_law_1368 (by decide) ?_
        exact J.less (bc' := bc) (bs' := bs) hW (by omega) (by omega)
      · have hW := hW.2 hc117
        refine J.iconst (v := 0) dL_law_1018 (by decide) ?_
        exact J.reti dL_law_1019 rfl (bz_nar (Or.inl rfl)) hW
    by_cases hk218 : ((ex E x3.toNatClampNeg) &&& 63) = 22
    · have hW := hW.2.2.2.2.2.2.2.2.2.2.2.2.2.2.2.2.2.2.2.2.2.2.1 hk218
      refine J.tableIn (off := 987) 1020 dL_law_33 (by rw [hk218] <;> decide) (by rw [hk218] <;> decide) (by rw [hk218] <;> rfl) (by decide) ?_
      refine J.aload_n dL_law_1020 rfl rfl ?_
      refine J.aload_n dL_law_1021 rfl rfl ?_
      refine J.iload_n dL_law_1022 rfl rfl ?_
      refine J.iconst (v := 1) dL_law_1023 (by decide) ?_
      refine J.iadd dL_law_1024 ?_
      obtain ⟨hb, hW⟩ := hW
      refine J.sld (x := ex E (x3 + 1).toNatClampNeg) dL_law_1025 hb rfl ?_
      refine J.less (bc' := bc + 0) (bs' := bs + 0) ?_ (by omega) (by omega)
      refine J.callV (M' := mX11_wed) (index := 111) (bc := bc) (bs := bs) (bc' := 0) (bs' := 0) (st := []) [.int (ex E (x3 + 1).toNatClampNeg)] ml_L_111 cv_X11_wed dL_law_1026 (lt0 hs) (kk0 hs) (by decide) rfl rfl rfl rfl (Nat.le_of_ble_eq_true rfl) (kgi hW (fun r122 h118 I119 L120 hW => ?_))
      obtain ⟨hs121, hW⟩ := hW
      refine J.aload_n dL_law_1029 rfl rfl ?_
      refine J.aload_n dL_law_1030 rfl rfl ?_
      refine J.iload_n dL_law_1031 rfl rfl ?_
      refine J.iconst (v := 1) dL_law_1032 (by decide) ?_
      refine J.iadd dL_law_1033 ?_
      obtain ⟨hb, hW⟩ := hW
      refine J.sld (x := ex E (x3 + 1).toNatClampNeg) dL_law_1034 hb rfl ?_
      refine J.callV (M' := mX12_wed) (index := 114) (bc := bc) (bs := bs) (bc' := 0) (bs' := 0) (st := [.int r122]) [.int (ex E (x3 + 1).toNatClampNeg)] ml_L_114 cv_X12_wed dL_law_1035 (lt83 hs121) (kk83 hs121) (by decide) rfl rfl rfl rfl (Nat.le_of_ble_eq_true rfl) (kqi hW (fun r124 I123 hW => ?_))
      refine J.ic_eq 1365 dL_law_1038 (by decide) (fun hc125 => ?_) (fun hc125 => ?_)
      · have hW := hW.1 hc125
        refine J.iinc (v := x3 + 6) (vs' := [some (.ref (eb E)), some (.ref (eB E + 0)), some (.ref (eB E + 83)), some (.int (x3 + 6))]) dL_law_1365 rfl (by rfl) (by decide) rfl ?_
        refine J.goto 18 dL_law_1368 (by decide) ?_
        exact J.less (bc' := bc) (bs' := bs) hW (by omega) (by omega)
      · have hW := hW.2 hc125
        refine J.iconst (v := 0) dL_law_1041 (by decide) ?_
        exact J.reti dL_law_1042 rfl (bz_nar (Or.inl rfl)) hW
    by_cases hk219 : ((ex E x3.toNatClampNeg) &&& 63) = 23
    · have hW := hW.2.2.2.2.2.2.2.2.2.2.2.2.2.2.2.2.2.2.2.2.2.2.2.1 hk219
      refine J.tableIn (off := 1010) 1043 dL_law_33 (by rw [hk219] <;> decide) (by rw [hk219] <;> decide) (by rw [hk219] <;> rfl) (by decide) ?_
      refine J.aload_n dL_law_1043 rfl rfl ?_
      refine J.aload_n dL_law_1044 rfl rfl ?_
      refine J.iload_n dL_law_1045 rfl rfl ?_
      refine J.iconst (v := 1) dL_law_1046 (by decide) ?_
      refine J.iadd dL_law_1047 ?_
      obtain ⟨hb, hW⟩ := hW
      refine J.sld (x := ex E (x3 + 1).toNatClampNeg) dL_law_1048 hb rfl ?_
      refine J.aload_n dL_law_1049 rfl rfl ?_
      refine J.iload_n dL_law_1050 rfl rfl ?_
      refine J.iconst (v := 2) dL_law_1051 (by decide) ?_
      refine J.iadd dL_law_1052 ?_
      obtain ⟨hb, hW⟩ := hW
      refine J.sld (x := ex E (x3 + 2).toNatClampNeg) dL_law_1053 hb rfl ?_
      have hj : J E mL_law (d + 11) Q (bc + 50) (bs + 2000) 1062 [some (.ref (eb E)), some (.ref (eB E + 0)), some (.ref (eB E + 83)), some (.int x3)] [.int (bI (¬ ((ex E (x3 + 2).toNatClampNeg) = 0))), .int (ex E (x3 + 1).toNatClampNeg), .ref (eB E + 0)] h I L := by
        refine J.less (bc' := bc + 0) (bs' := bs + 0) ?_ (by omega) (by omega)
        refine J.callV (M' := mX11_breaks) (index := 115) (bc := bc) (bs := bs) (bc' := 0) (bs' := 0) (st := []) [.int (ex E (x3 + 1).toNatClampNeg), .int (bI (¬ ((ex E (x3 + 2).toNatClampNeg) = 0)))] ml_L_115 cv_X11_breaks dL_law_1062 (lt0 hs) (kk0 hs) (by decide) rfl rfl rfl rfl (Nat.le_of_ble_eq_true rfl) (kqi hW (fun r128 I127 hW => ?_))
        refine J.aload_n dL_law_1065 rfl rfl ?_
        refine J.aload_n dL_law_1066 rfl rfl ?_
        refine J.iload_n dL_law_1067 rfl rfl ?_
        refine J.iconst (v := 1) dL_law_1068 (by decide) ?_
        refine J.iadd dL_law_1069 ?_
        obtain ⟨hb, hW⟩ := hW
        refine J.sld (x := ex E (x3 + 1).toNatClampNeg) dL_law_1070 hb rfl ?_
        refine J.aload_n dL_law_1071 rfl rfl ?_
        refine J.iload_n dL_law_1072 rfl rfl ?_
        refine J.iconst (v := 2) dL_law_1073 (by decide) ?_
        refine J.iadd dL_law_1074 ?_
        obtain ⟨hb, hW⟩ := hW
        refine J.sld (x := ex E (x3 + 2).toNatClampNeg) dL_law_1075 hb rfl ?_
        have hj : J E mL_law (d + 11) Q bc bs 1084 [some (.ref (eb E)), some (.ref (eB E + 0)), some (.ref (eB E + 83)), some (.int x3)] [.int (bI (¬ ((ex E (x3 + 2).toNatClampNeg) = 0))), .int (ex E (x3 + 1).toNatClampNeg), .ref (eB E + 83), .int r128] h I127 L := by
          refine J.callV (M' := mX12_breaks) (index := 119) (bc := bc) (bs := bs) (bc' := 0) (bs' := 0) (st := [.int r128]) [.int (ex E (x3 + 1).toNatClampNeg), .int (bI (¬ ((ex E (x3 + 2).toNatClampNeg) = 0)))] ml_L_119 cv_X12_breaks dL_law_1084 (lt83 hs) (kk83 hs) (by decide) rfl rfl rfl rfl (Nat.le_of_ble_eq_true rfl) (kqi hW (fun r131 I130 hW => ?_))
          refine J.ic_eq 1365 dL_law_1087 (by decide) (fun hc132 => ?_) (fun hc132 => ?_)
          · have hW := hW.1 hc132
            refine J.iinc (v := x3 + 6) (vs' := [some (.ref (eb E)), some (.ref (eB E + 0)), some (.ref (eB E + 83)), some (.int (x3 + 6))]) dL_law_1365 rfl (by rfl) (by decide) rfl ?_
            refine J.goto 18 dL_law_1368 (by decide) ?_
            exact J.less (bc' := bc) (bs' := bs) hW (by omega) (by omega)
          · have hW := hW.2 hc132
            refine J.iconst (v := 0) dL_law_1090 (by decide) ?_
            exact J.reti dL_law_1091 rfl (bz_nar (Or.inl rfl)) hW
        refine J.if_eq 1083 dL_law_1076 (by decide) (fun hc129 => ?_) (fun hc129 => ?_)
        · refine J.iconst (v := 0) dL_law_1083 (by decide) ?_
          rw [show bI (¬ ((ex E (x3 + 2).toNatClampNeg) = 0)) = 0 from bI_f (by simp only [eq_true hc129, and_true, true_and, and_false, false_and, or_true, true_or, or_false, false_or, not_true_eq_false, not_false_eq_true])] at hj
          exact hj
        · refine J.iconst (v := 1) dL_law_1079 (by decide) ?_
          refine J.goto 1084 dL_law_1080 (by decide) ?_
          rw [show bI (¬ ((ex E (x3 + 2).toNatClampNeg) = 0)) = 1 from bI_t (by simp only [eq_false hc129, and_true, true_and, and_false, false_and, or_true, true_or, or_false, false_or, not_true_eq_false, not_false_eq_true])] at hj
          exact hj
      refine J.if_eq 1061 dL_law_1054 (by decide) (fun hc126 => ?_) (fun hc126 => ?_)
      · refine J.iconst (v := 0) dL_law_1061 (by decide) ?_
        rw [show bI (¬ ((ex E (x3 + 2).toNatClampNeg) = 0)) = 0 from bI_f (by simp only [eq_true hc126, and_true, true_and, and_false, false_and, or_true, true_or, or_false, false_or, not_true_eq_false, not_false_eq_true])] at hj
        exact hj
      · refine J.iconst (v := 1) dL_law_1057 (by decide) ?_
        refine J.goto 1062 dL_law_1058 (by decide) ?_
        rw [show bI (¬ ((ex E (x3 + 2).toNatClampNeg) = 0)) = 1 from bI_t (by simp only [eq_false hc126, and_true, true_and, and_false, false_and, or_true, true_or, or_false, false_or, not_true_eq_false, not_false_eq_true])] at hj
        exact hj
    by_cases hk220 : ((ex E x3.toNatClampNeg) &&& 63) = 24
    · have hW := hW.2.2.2.2.2.2.2.2.2.2.2.2.2.2.2.2.2.2.2.2.2.2.2.2.1 hk220
      refine J.tableIn (off := 1059) 1092 dL_law_33 (by rw [hk220] <;> decide) (by rw [hk220] <;> decide) (by rw [hk220] <;> rfl) (by decide) ?_
      refine J.aload_n dL_law_1092 rfl rfl ?_
      refine J.aload_n dL_law_1093 rfl rfl ?_
      refine J.iload_n dL_law_1094 rfl rfl ?_
      refine J.iconst (v := 1) dL_law_1095 (by decide) ?_
      refine J.iadd dL_law_1096 ?_
      obtain ⟨hb, hW⟩ := hW
      refine J.sld (x := ex E (x3 + 1).toNatClampNeg) dL_law_1097 hb rfl ?_
      refine J.aload_n dL_law_1098 rfl rfl ?_
      refine J.iload_n dL_law_1099 rfl rfl ?_
      refine J.iconst (v := 2) dL_law_1100 (by decide) ?_
      refine J.iadd dL_law_1101 ?_
      obtain ⟨hb, hW⟩ := hW
      refine J.sld (x := ex E (x3 + 2).toNatClampNeg) dL_law_1102 hb rfl ?_
      refine J.less (bc' := bc + 0) (bs' := bs + 0) ?_ (by omega) (by omega)
      refine J.callV (M' := mX11_match) (index := 120) (bc := bc) (bs := bs) (bc' := 0) (bs' := 0) (st := []) [.int (ex E (x3 + 1).toNatClampNeg), .int (ex E (x3 + 2).toNatClampNeg)] ml_L_120 cv_X11_match dL_law_1103 (lt0 hs) (kk0 hs) (by decide) rfl rfl rfl rfl (Nat.le_of_ble_eq_true rfl) (kqi hW (fun r134 I133 hW => ?_))
      refine J.aload_n dL_law_1106 rfl rfl ?_
      refine J.aload_n dL_law_1107 rfl rfl ?_
      refine J.iload_n dL_law_1108 rfl rfl ?_
      refine J.iconst (v := 1) dL_law_1109 (by decide) ?_
      refine J.iadd dL_law_1110 ?_
      obtain ⟨hb, hW⟩ := hW
      refine J.sld (x := ex E (x3 + 1).toNatClampNeg) dL_law_1111 hb rfl ?_
      refine J.aload_n dL_law_1112 rfl rfl ?_
      refine J.iload_n dL_law_1113 rfl rfl ?_
      refine J.iconst (v := 2) dL_law_1114 (by decide) ?_
      refine J.iadd dL_law_1115 ?_
      obtain ⟨hb, hW⟩ := hW
      refine J.sld (x := ex E (x3 + 2).toNatClampNeg) dL_law_1116 hb rfl ?_
      refine J.callV (M' := mX12_match) (index := 123) (bc := bc) (bs := bs) (bc' := 0) (bs' := 0) (st := [.int r134]) [.int (ex E (x3 + 1).toNatClampNeg), .int (ex E (x3 + 2).toNatClampNeg)] ml_L_123 cv_X12_match dL_law_1117 (lt83 hs) (kk83 hs) (by decide) rfl rfl rfl rfl (Nat.le_of_ble_eq_true rfl) (kqi hW (fun r136 I135 hW => ?_))
      refine J.ic_eq 1365 dL_law_1120 (by decide) (fun hc137 => ?_) (fun hc137 => ?_)
      · have hW := hW.1 hc137
        refine J.iinc (v := x3 + 6) (vs' := [some (.ref (eb E)), some (.ref (eB E + 0)), some (.ref (eB E + 83)), some (.int (x3 + 6))]) dL_law_1365 rfl (by rfl) (by decide) rfl ?_
        refine J.goto 18 dL_law_1368 (by decide) ?_
        exact J.less (bc' := bc) (bs' := bs) hW (by omega) (by omega)
      · have hW := hW.2 hc137
        refine J.iconst (v := 0) dL_law_1123 (by decide) ?_
        exact J.reti dL_law_1124 rfl (bz_nar (Or.inl rfl)) hW
    by_cases hk221 : ((ex E x3.toNatClampNeg) &&& 63) = 25
    · have hW := hW.2.2.2.2.2.2.2.2.2.2.2.2.2.2.2.2.2.2.2.2.2.2.2.2.2.1 hk221
      refine J.tableIn (off := 1092) 1125 dL_law_33 (by rw [hk221] <;> decide) (by rw [hk221] <;> decide) (by rw [hk221] <;> rfl) (by decide) ?_
      refine J.aload_n dL_law_1125 rfl rfl ?_
      refine J.aload_n dL_law_1126 rfl rfl ?_
      refine J.iload_n dL_law_1127 rfl rfl ?_
      refine J.iconst (v := 1) dL_law_1128 (by decide) ?_
      refine J.iadd dL_law_1129 ?_
      obtain ⟨hb, hW⟩ := hW
      refine J.sld (x := ex E (x3 + 1).toNatClampNeg) dL_law_1130 hb rfl ?_
      refine J.less (bc' := bc + 0) (bs' := bs + 0) ?_ (by omega) (by omega)
      refine J.callV (M' := mX11_late) (index := 124) (bc := bc) (bs := bs) (bc' := 0) (bs' := 0) (st := []) [.int (ex E (x3 + 1).toNatClampNeg)] ml_L_124 cv_X11_late dL_law_1131 (lt0 hs) (kk0 hs) (by decide) rfl rfl rfl rfl (Nat.le_of_ble_eq_true rfl) (kqi hW (fun r139 I138 hW => ?_))
      refine J.aload_n dL_law_1134 rfl rfl ?_
      refine J.aload_n dL_law_1135 rfl rfl ?_
      refine J.iload_n dL_law_1136 rfl rfl ?_
      refine J.iconst (v := 1) dL_law_1137 (by decide) ?_
      refine J.iadd dL_law_1138 ?_
      obtain ⟨hb, hW⟩ := hW
      refine J.sld (x := ex E (x3 + 1).toNatClampNeg) dL_law_1139 hb rfl ?_
      refine J.callV (M' := mX12_late) (index := 127) (bc := bc) (bs := bs) (bc' := 0) (bs' := 0) (st := [.int r139]) [.int (ex E (x3 + 1).toNatClampNeg)] ml_L_127 cv_X12_late dL_law_1140 (lt83 hs) (kk83 hs) (by decide) rfl rfl rfl rfl (Nat.le_of_ble_eq_true rfl) (kqi hW (fun r141 I140 hW => ?_))
      refine J.ic_eq 1365 dL_law_1143 (by decide) (fun hc142 => ?_) (fun hc142 => ?_)
      · have hW := hW.1 hc142
        refine J.iinc (v := x3 + 6) (vs' := [some (.ref (eb E)), some (.ref (eB E + 0)), some (.ref (eB E + 83)), some (.int (x3 + 6))]) dL_law_1365 rfl (by rfl) (by decide) rfl ?_
        refine J.goto 18 dL_law_1368 (by decide) ?_
        exact J.less (bc' := bc) (bs' := bs) hW (by omega) (by omega)
      · have hW := hW.2 hc142
        refine J.iconst (v := 0) dL_law_1146 (by decide) ?_
        exact J.reti dL_law_1147 rfl (bz_nar (Or.inl rfl)) hW
    by_cases hk222 : ((ex E x3.toNatClampNeg) &&& 63) = 26
    · have hW := hW.2.2.2.2.2.2.2.2.2.2.2.2.2.2.2.2.2.2.2.2.2.2.2.2.2.2.1 hk222
      refine J.tableIn (off := 1115) 1148 dL_law_33 (by rw [hk222] <;> decide) (by rw [hk222] <;> decide) (by rw [hk222] <;> rfl) (by decide) ?_
      refine J.aload_n dL_law_1148 rfl rfl ?_
      refine J.aload_n dL_law_1149 rfl rfl ?_
      refine J.iload_n dL_law_1150 rfl rfl ?_
      refine J.iconst (v := 1) dL_law_1151 (by decide) ?_
      refine J.iadd dL_law_1152 ?_
      obtain ⟨hb, hW⟩ := hW
      refine J.sld (x := ex E (x3 + 1).toNatClampNeg) dL_law_1153 hb rfl ?_
      refine J.less (bc' := bc + 0) (bs' := bs + 0) ?_ (by omega) (by omega)
      refine J.callV (M' := mX11_parts) (index := 128) (bc := bc) (bs := bs) (bc' := 0) (bs' := 0) (st := []) [.int (ex E (x3 + 1).toNatClampNeg)] ml_L_128 cv_X11_parts dL_law_1154 (lt0 hs) (kk0 hs) (by decide) rfl rfl rfl rfl (Nat.le_of_ble_eq_true rfl) (kqi hW (fun r144 I143 hW => ?_))
      refine J.aload_n dL_law_1157 rfl rfl ?_
      refine J.aload_n dL_law_1158 rfl rfl ?_
      refine J.iload_n dL_law_1159 rfl rfl ?_
      refine J.iconst (v := 1) dL_law_1160 (by decide) ?_
      refine J.iadd dL_law_1161 ?_
      obtain ⟨hb, hW⟩ := hW
      refine J.sld (x := ex E (x3 + 1).toNatClampNeg) dL_law_1162 hb rfl ?_
      refine J.callV (M' := mX12_parts) (index := 131) (bc := bc) (bs := bs) (bc' := 0) (bs' := 0) (st := [.int r144]) [.int (ex E (x3 + 1).toNatClampNeg)] ml_L_131 cv_X12_parts dL_law_1163 (lt83 hs) (kk83 hs) (by decide) rfl rfl rfl rfl (Nat.le_of_ble_eq_true rfl) (kqi hW (fun r146 I145 hW => ?_))
      refine J.ic_eq 1365 dL_law_1166 (by decide) (fun hc147 => ?_) (fun hc147 => ?_)
      · have hW := hW.1 hc147
        refine J.iinc (v := x3 + 6) (vs' := [some (.ref (eb E)), some (.ref (eB E + 0)), some (.ref (eB E + 83)), some (.int (x3 + 6))]) dL_law_1365 rfl (by rfl) (by decide) rfl ?_
        refine J.goto 18 dL_law_1368 (by decide) ?_
        exact J.less (bc' := bc) (bs' := bs) hW (by omega) (by omega)
      · have hW := hW.2 hc147
        refine J.iconst (v := 0) dL_law_1169 (by decide) ?_
        exact J.reti dL_law_1170 rfl (bz_nar (Or.inl rfl)) hW
    by_cases hk223 : ((ex E x3.toNatClampNeg) &&& 63) = 27
    · have hW := hW.2.2.2.2.2.2.2.2.2.2.2.2.2.2.2.2.2.2.2.2.2.2.2.2.2.2.2.1 hk223
      refine J.tableIn (off := 1138) 1171 dL_law_33 (by rw [hk223] <;> decide) (by rw [hk223] <;> decide) (by rw [hk223] <;> rfl) (by decide) ?_
      refine J.aload_n dL_law_1171 rfl rfl ?_
      refine J.aload_n dL_law_1172 rfl rfl ?_
      refine J.iload_n dL_law_1173 rfl rfl ?_
      refine J.iconst (v := 1) dL_law_1174 (by decide) ?_
      refine J.iadd dL_law_1175 ?_
      obtain ⟨hb, hW⟩ := hW
      refine J.sld (x := ex E (x3 + 1).toNatClampNeg) dL_law_1176 hb rfl ?_
      refine J.less (bc' := bc + 0) (bs' := bs + 0) ?_ (by omega) (by omega)
      refine J.callV (M' := mX11_best) (index := 132) (bc := bc) (bs := bs) (bc' := 0) (bs' := 0) (st := []) [.int (ex E (x3 + 1).toNatClampNeg)] ml_L_132 cv_X11_best dL_law_1177 (lt0 hs) (kk0 hs) (by decide) rfl rfl rfl rfl (Nat.le_of_ble_eq_true rfl) (kqi hW (fun r149 I148 hW => ?_))
      refine J.aload_n dL_law_1180 rfl rfl ?_
      refine J.aload_n dL_law_1181 rfl rfl ?_
      refine J.iload_n dL_law_1182 rfl rfl ?_
      refine J.iconst (v := 1) dL_law_1183 (by decide) ?_
      refine J.iadd dL_law_1184 ?_
      obtain ⟨hb, hW⟩ := hW
      refine J.sld (x := ex E (x3 + 1).toNatClampNeg) dL_law_1185 hb rfl ?_
      refine J.callV (M' := mX12_best) (index := 135) (bc := bc) (bs := bs) (bc' := 0) (bs' := 0) (st := [.int r149]) [.int (ex E (x3 + 1).toNatClampNeg)] ml_L_135 cv_X12_best dL_law_1186 (lt83 hs) (kk83 hs) (by decide) rfl rfl rfl rfl (Nat.le_of_ble_eq_true rfl) (kqiL hW (fun r152 I150 L151 hW => ?_))
      refine J.ic_eq 1365 dL_law_1189 (by decide) (fun hc153 => ?_) (fun hc153 => ?_)
      · have hW := hW.1 hc153
        refine J.iinc (v := x3 + 6) (vs' := [some (.ref (eb E)), some (.ref (eB E + 0)), some (.ref (eB E + 83)), some (.int (x3 + 6))]) dL_law_1365 rfl (by rfl) (by decide) rfl ?_
        refine J.goto 18 dL_law_1368 (by decide) ?_
        exact J.less (bc' := bc) (bs' := bs) hW (by omega) (by omega)
      · have hW := hW.2 hc153
        refine J.iconst (v := 0) dL_law_1192 (by decide) ?_
        exact J.reti dL_law_1193 rfl (bz_nar (Or.inl rfl)) hW
    by_cases hk224 : ((ex E x3.toNatClampNeg) &&& 63) = 28
    · have hW := hW.2.2.2.2.2.2.2.2.2.2.2.2.2.2.2.2.2.2.2.2.2.2.2.2.2.2.2.2.1 hk224
      refine J.tableIn (off := 1161) 1194 dL_law_33 (by rw [hk224] <;> decide) (by rw [hk224] <;> decide) (by rw [hk224] <;> rfl) (by decide) ?_
      refine J.aload_n dL_law_1194 rfl rfl ?_
      refine J.aload_n dL_law_1195 rfl rfl ?_
      refine J.iload_n dL_law_1196 rfl rfl ?_
      refine J.iconst (v := 1) dL_law_1197 (by decide) ?_
      refine J.iadd dL_law_1198 ?_
      obtain ⟨hb, hW⟩ := hW
      refine J.sld (x := ex E (x3 + 1).toNatClampNeg) dL_law_1199 hb rfl ?_
      refine J.less (bc' := bc + 0) (bs' := bs + 0) ?_ (by omega) (by omega)
      refine J.callV (M' := mX11_bestFor) (index := 136) (bc := bc) (bs := bs) (bc' := 0) (bs' := 0) (st := []) [.int (ex E (x3 + 1).toNatClampNeg)] ml_L_136 cv_X11_bestFor dL_law_1200 (lt0 hs) (kk0 hs) (by decide) rfl rfl rfl rfl (Nat.le_of_ble_eq_true rfl) (kqi hW (fun r155 I154 hW => ?_))
      refine J.aload_n dL_law_1203 rfl rfl ?_
      refine J.aload_n dL_law_1204 rfl rfl ?_
      refine J.iload_n dL_law_1205 rfl rfl ?_
      refine J.iconst (v := 1) dL_law_1206 (by decide) ?_
      refine J.iadd dL_law_1207 ?_
      obtain ⟨hb, hW⟩ := hW
      refine J.sld (x := ex E (x3 + 1).toNatClampNeg) dL_law_1208 hb rfl ?_
      refine J.callV (M' := mX12_bestFor) (index := 139) (bc := bc) (bs := bs) (bc' := 0) (bs' := 0) (st := [.int r155]) [.int (ex E (x3 + 1).toNatClampNeg)] ml_L_139 cv_X12_bestFor dL_law_1209 (lt83 hs) (kk83 hs) (by decide) rfl rfl rfl rfl (Nat.le_of_ble_eq_true rfl) (kqiL hW (fun r158 I156 L157 hW => ?_))
      refine J.ic_eq 1365 dL_law_1212 (by decide) (fun hc159 => ?_) (fun hc159 => ?_)
      · have hW := hW.1 hc159
        refine J.iinc (v := x3 + 6) (vs' := [some (.ref (eb E)), some (.ref (eB E + 0)), some (.ref (eB E + 83)), some (.int (x3 + 6))]) dL_law_1365 rfl (by rfl) (by decide) rfl ?_
        refine J.goto 18 dL_law_1368 (by decide) ?_
        exact J.less (bc' := bc) (bs' := bs) hW (by omega) (by omega)
      · have hW := hW.2 hc159
        refine J.iconst (v := 0) dL_law_1215 (by decide) ?_
        exact J.reti dL_law_1216 rfl (bz_nar (Or.inl rfl)) hW
    by_cases hk225 : ((ex E x3.toNatClampNeg) &&& 63) = 29
    · have hW := hW.2.2.2.2.2.2.2.2.2.2.2.2.2.2.2.2.2.2.2.2.2.2.2.2.2.2.2.2.2.1 hk225
      refine J.tableIn (off := 1184) 1217 dL_law_33 (by rw [hk225] <;> decide) (by rw [hk225] <;> decide) (by rw [hk225] <;> rfl) (by decide) ?_
      refine J.aload_n dL_law_1217 rfl rfl ?_
      refine J.aload_n dL_law_1218 rfl rfl ?_
      refine J.iload_n dL_law_1219 rfl rfl ?_
      refine J.iconst (v := 1) dL_law_1220 (by decide) ?_
      refine J.iadd dL_law_1221 ?_
      obtain ⟨hb, hW⟩ := hW
      refine J.sld (x := ex E (x3 + 1).toNatClampNeg) dL_law_1222 hb rfl ?_
      refine J.less (bc' := bc + 0) (bs' := bs + 0) ?_ (by omega) (by omega)
      refine J.callV (M' := mX11_stable) (index := 140) (bc := bc) (bs := bs) (bc' := 0) (bs' := 0) (st := []) [.int (ex E (x3 + 1).toNatClampNeg)] ml_L_140 cv_X11_stable dL_law_1223 (lt0 hs) (kk0 hs) (by decide) rfl rfl rfl rfl (Nat.le_of_ble_eq_true rfl) (kqi hW (fun r161 I160 hW => ?_))
      refine J.aload_n dL_law_1226 rfl rfl ?_
      refine J.aload_n dL_law_1227 rfl rfl ?_
      refine J.iload_n dL_law_1228 rfl rfl ?_
      refine J.iconst (v := 1) dL_law_1229 (by decide) ?_
      refine J.iadd dL_law_1230 ?_
      obtain ⟨hb, hW⟩ := hW
      refine J.sld (x := ex E (x3 + 1).toNatClampNeg) dL_law_1231 hb rfl ?_
      refine J.callV (M' := mX12_stable) (index := 143) (bc := bc) (bs := bs) (bc' := 0) (bs' := 0) (st := [.int r161]) [.int (ex E (x3 + 1).toNatClampNeg)] ml_L_143 cv_X12_stable dL_law_1232 (lt83 hs) (kk83 hs) (by decide) rfl rfl rfl rfl (Nat.le_of_ble_eq_true rfl) (kqi hW (fun r163 I162 hW => ?_))
      refine J.ic_eq 1365 dL_law_1235 (by decide) (fun hc164 => ?_) (fun hc164 => ?_)
      · have hW := hW.1 hc164
        refine J.iinc (v := x3 + 6) (vs' := [some (.ref (eb E)), some (.ref (eB E + 0)), some (.ref (eB E + 83)), some (.int (x3 + 6))]) dL_law_1365 rfl (by rfl) (by decide) rfl ?_
        refine J.goto 18 dL_law_1368 (by decide) ?_
        exact J.less (bc' := bc) (bs' := bs) hW (by omega) (by omega)
      · have hW := hW.2 hc164
        refine J.iconst (v := 0) dL_law_1238 (by decide) ?_
        exact J.reti dL_law_1239 rfl (bz_nar (Or.inl rfl)) hW
    by_cases hk226 : ((ex E x3.toNatClampNeg) &&& 63) = 30
    · have hW := hW.2.2.2.2.2.2.2.2.2.2.2.2.2.2.2.2.2.2.2.2.2.2.2.2.2.2.2.2.2.2.1 hk226
      refine J.tableIn (off := 1207) 1240 dL_law_33 (by rw [hk226] <;> decide) (by rw [hk226] <;> decide) (by rw [hk226] <;> rfl) (by decide) ?_
      refine J.aload_n dL_law_1240 rfl rfl ?_
      refine J.aload_n dL_law_1241 rfl rfl ?_
      refine J.iload_n dL_law_1242 rfl rfl ?_
      refine J.iconst (v := 1) dL_law_1243 (by decide) ?_
      refine J.iadd dL_law_1244 ?_
      obtain ⟨hb, hW⟩ := hW
      refine J.sld (x := ex E (x3 + 1).toNatClampNeg) dL_law_1245 hb rfl ?_
      refine J.less (bc' := bc + 0) (bs' := bs + 0) ?_ (by omega) (by omega)
      refine J.callV (M' := mX11_ring) (index := 144) (bc := bc) (bs := bs) (bc' := 0) (bs' := 0) (st := []) [.int (ex E (x3 + 1).toNatClampNeg)] ml_L_144 cv_X11_ring dL_law_1246 (lt0 hs) (kk0 hs) (by decide) rfl rfl rfl rfl (Nat.le_of_ble_eq_true rfl) (kqi hW (fun r166 I165 hW => ?_))
      refine J.aload_n dL_law_1249 rfl rfl ?_
      refine J.aload_n dL_law_1250 rfl rfl ?_
      refine J.iload_n dL_law_1251 rfl rfl ?_
      refine J.iconst (v := 1) dL_law_1252 (by decide) ?_
      refine J.iadd dL_law_1253 ?_
      obtain ⟨hb, hW⟩ := hW
      refine J.sld (x := ex E (x3 + 1).toNatClampNeg) dL_law_1254 hb rfl ?_
      refine J.callV (M' := mX12_ring) (index := 147) (bc := bc) (bs := bs) (bc' := 0) (bs' := 0) (st := [.int r166]) [.int (ex E (x3 + 1).toNatClampNeg)] ml_L_147 cv_X12_ring dL_law_1255 (lt83 hs) (kk83 hs) (by decide) rfl rfl rfl rfl (Nat.le_of_ble_eq_true rfl) (kqi hW (fun r168 I167 hW => ?_))
      refine J.ic_eq 1365 dL_law_1258 (by decide) (fun hc169 => ?_) (fun hc169 => ?_)
      · have hW := hW.1 hc169
        refine J.iinc (v := x3 + 6) (vs' := [some (.ref (eb E)), some (.ref (eB E + 0)), some (.ref (eB E + 83)), some (.int (x3 + 6))]) dL_law_1365 rfl (by rfl) (by decide) rfl ?_
        refine J.goto 18 dL_law_1368 (by decide) ?_
        exact J.less (bc' := bc) (bs' := bs) hW (by omega) (by omega)
      · have hW := hW.2 hc169
        refine J.iconst (v := 0) dL_law_1261 (by decide) ?_
        exact J.reti dL_law_1262 rfl (bz_nar (Or.inl rfl)) hW
    by_cases hk227 : ((ex E x3.toNatClampNeg) &&& 63) = 31
    · have hW := hW.2.2.2.2.2.2.2.2.2.2.2.2.2.2.2.2.2.2.2.2.2.2.2.2.2.2.2.2.2.2.2.1 hk227
      refine J.tableIn (off := 1230) 1263 dL_law_33 (by rw [hk227] <;> decide) (by rw [hk227] <;> decide) (by rw [hk227] <;> rfl) (by decide) ?_
      refine J.aload_n dL_law_1263 rfl rfl ?_
      refine J.aload_n dL_law_1264 rfl rfl ?_
      refine J.iload_n dL_law_1265 rfl rfl ?_
      refine J.iconst (v := 1) dL_law_1266 (by decide) ?_
      refine J.iadd dL_law_1267 ?_
      obtain ⟨hb, hW⟩ := hW
      refine J.sld (x := ex E (x3 + 1).toNatClampNeg) dL_law_1268 hb rfl ?_
      refine J.aload_n dL_law_1269 rfl rfl ?_
      refine J.iload_n dL_law_1270 rfl rfl ?_
      refine J.iconst (v := 2) dL_law_1271 (by decide) ?_
      refine J.iadd dL_law_1272 ?_
      obtain ⟨hb, hW⟩ := hW
      refine J.sld (x := ex E (x3 + 2).toNatClampNeg) dL_law_1273 hb rfl ?_
      refine J.less (bc' := bc + 0) (bs' := bs + 0) ?_ (by omega) (by omega)
      refine J.callV (M' := mX11_ringed) (index := 148) (bc := bc) (bs := bs) (bc' := 0) (bs' := 0) (st := []) [.int (ex E (x3 + 1).toNatClampNeg), .int (ex E (x3 + 2).toNatClampNeg)] ml_L_148 cv_X11_ringed dL_law_1274 (lt0 hs) (kk0 hs) (by decide) rfl rfl rfl rfl (Nat.le_of_ble_eq_true rfl) (kqi hW (fun r171 I170 hW => ?_))
      refine J.aload_n dL_law_1277 rfl rfl ?_
      refine J.aload_n dL_law_1278 rfl rfl ?_
      refine J.iload_n dL_law_1279 rfl rfl ?_
      refine J.iconst (v := 1) dL_law_1280 (by decide) ?_
      refine J.iadd dL_law_1281 ?_
      obtain ⟨hb, hW⟩ := hW
      refine J.sld (x := ex E (x3 + 1).toNatClampNeg) dL_law_1282 hb rfl ?_
      refine J.aload_n dL_law_1283 rfl rfl ?_
      refine J.iload_n dL_law_1284 rfl rfl ?_
      refine J.iconst (v := 2) dL_law_1285 (by decide) ?_
      refine J.iadd dL_law_1286 ?_
      obtain ⟨hb, hW⟩ := hW
      refine J.sld (x := ex E (x3 + 2).toNatClampNeg) dL_law_1287 hb rfl ?_
      refine J.callV (M' := mX12_ringed) (index := 151) (bc := bc) (bs := bs) (bc' := 0) (bs' := 0) (st := [.int r171]) [.int (ex E (x3 + 1).toNatClampNeg), .int (ex E (x3 + 2).toNatClampNeg)] ml_L_151 cv_X12_ringed dL_law_1288 (lt83 hs) (kk83 hs) (by decide) rfl rfl rfl rfl (Nat.le_of_ble_eq_true rfl) (kqi hW (fun r173 I172 hW => ?_))
      refine J.ic_eq 1365 dL_law_1291 (by decide) (fun hc174 => ?_) (fun hc174 => ?_)
      · have hW := hW.1 hc174
        refine J.iinc (v := x3 + 6) (vs' := [some (.ref (eb E)), some (.ref (eB E + 0)), some (.ref (eB E + 83)), some (.int (x3 + 6))]) dL_law_1365 rfl (by rfl) (by decide) rfl ?_
        refine J.goto 18 dL_law_1368 (by decide) ?_
        exact J.less (bc' := bc) (bs' := bs) hW (by omega) (by omega)
      · have hW := hW.2 hc174
        refine J.iconst (v := 0) dL_law_1294 (by decide) ?_
        exact J.reti dL_law_1295 rfl (bz_nar (Or.inl rfl)) hW
    by_cases hk228 : ((ex E x3.toNatClampNeg) &&& 63) = 32
    · have hW := hW.2.2.2.2.2.2.2.2.2.2.2.2.2.2.2.2.2.2.2.2.2.2.2.2.2.2.2.2.2.2.2.2.1 hk228
      refine J.tableIn (off := 1263) 1296 dL_law_33 (by rw [hk228] <;> decide) (by rw [hk228] <;> decide) (by rw [hk228] <;> rfl) (by decide) ?_
      refine J.aload_n dL_law_1296 rfl rfl ?_
      refine J.aload_n dL_law_1297 rfl rfl ?_
      refine J.iload_n dL_law_1298 rfl rfl ?_
      refine J.iconst (v := 1) dL_law_1299 (by decide) ?_
      refine J.iadd dL_law_1300 ?_
      obtain ⟨hb, hW⟩ := hW
      refine J.sld (x := ex E (x3 + 1).toNatClampNeg) dL_law_1301 hb rfl ?_
      refine J.less (bc' := bc + 0) (bs' := bs + 0) ?_ (by omega) (by omega)
      refine J.callV (M' := mX11_count) (index := 152) (bc := bc) (bs := bs) (bc' := 0) (bs' := 0) (st := []) [.int (ex E (x3 + 1).toNatClampNeg)] ml_L_152 cv_X11_count dL_law_1302 (lt0 hs) (kk0 hs) (by decide) rfl rfl rfl rfl (Nat.le_of_ble_eq_true rfl) (kqi hW (fun r176 I175 hW => ?_))
      refine J.aload_n dL_law_1305 rfl rfl ?_
      refine J.aload_n dL_law_1306 rfl rfl ?_
      refine J.iload_n dL_law_1307 rfl rfl ?_
      refine J.iconst (v := 1) dL_law_1308 (by decide) ?_
      refine J.iadd dL_law_1309 ?_
      obtain ⟨hb, hW⟩ := hW
      refine J.sld (x := ex E (x3 + 1).toNatClampNeg) dL_law_1310 hb rfl ?_
      refine J.callV (M' := mX12_count) (index := 155) (bc := bc) (bs := bs) (bc' := 0) (bs' := 0) (st := [.int r176]) [.int (ex E (x3 + 1).toNatClampNeg)] ml_L_155 cv_X12_count dL_law_1311 (lt83 hs) (kk83 hs) (by decide) rfl rfl rfl rfl (Nat.le_of_ble_eq_true rfl) (kqi hW (fun r178 I177 hW => ?_))
      refine J.ic_eq 1365 dL_law_1314 (by decide) (fun hc179 => ?_) (fun hc179 => ?_)
      · have hW := hW.1 hc179
        refine J.iinc (v := x3 + 6) (vs' := [some (.ref (eb E)), some (.ref (eB E + 0)), some (.ref (eB E + 83)), some (.int (x3 + 6))]) dL_law_1365 rfl (by rfl) (by decide) rfl ?_
        refine J.goto 18 dL_law_1368 (by decide) ?_
        exact J.less (bc' := bc) (bs' := bs) hW (by omega) (by omega)
      · have hW := hW.2 hc179
        refine J.iconst (v := 0) dL_law_1317 (by decide) ?_
        exact J.reti dL_law_1318 rfl (bz_nar (Or.inl rfl)) hW
    by_cases hk229 : ((ex E x3.toNatClampNeg) &&& 63) = 33
    · have hW := hW.2.2.2.2.2.2.2.2.2.2.2.2.2.2.2.2.2.2.2.2.2.2.2.2.2.2.2.2.2.2.2.2.2.1 hk229
      refine J.tableIn (off := 1286) 1319 dL_law_33 (by rw [hk229] <;> decide) (by rw [hk229] <;> decide) (by rw [hk229] <;> rfl) (by decide) ?_
      refine J.aload_n dL_law_1319 rfl rfl ?_
      refine J.aload_n dL_law_1320 rfl rfl ?_
      refine J.iload_n dL_law_1321 rfl rfl ?_
      refine J.iconst (v := 1) dL_law_1322 (by decide) ?_
      refine J.iadd dL_law_1323 ?_
      obtain ⟨hb, hW⟩ := hW
      refine J.sld (x := ex E (x3 + 1).toNatClampNeg) dL_law_1324 hb rfl ?_
      refine J.less (bc' := bc + 45) (bs' := bs + 1692) ?_ (by omega) (by omega)
      refine J.callV (M' := mX11_image) (index := 156) (bc := bc) (bs := bs) (bc' := 45) (bs' := 1692) (st := []) [.int (ex E (x3 + 1).toNatClampNeg)] ml_L_156 cv_X11_image dL_law_1325 (lt0 hs) (kk0 hs) (by decide) rfl rfl rfl rfl (Nat.le_of_ble_eq_true rfl) (kgi hW (fun r184 h180 I181 L182 hW => ?_))
      obtain ⟨hs183, hW⟩ := hW
      refine J.aload_n dL_law_1328 rfl rfl ?_
      refine J.aload_n dL_law_1329 rfl rfl ?_
      refine J.iload_n dL_law_1330 rfl rfl ?_
      refine J.iconst (v := 1) dL_law_1331 (by decide) ?_
      refine J.iadd dL_law_1332 ?_
      obtain ⟨hb, hW⟩ := hW
      refine J.sld (x := ex E (x3 + 1).toNatClampNeg) dL_law_1333 hb rfl ?_
      refine J.callV (M' := mX12_image) (index := 159) (bc := bc) (bs := bs) (bc' := 0) (bs' := 0) (st := [.int r184]) [.int (ex E (x3 + 1).toNatClampNeg)] ml_L_159 cv_X12_image dL_law_1334 (lt83 hs183) (kk83 hs183) (by decide) rfl rfl rfl rfl (Nat.le_of_ble_eq_true rfl) (kqi hW (fun r186 I185 hW => ?_))
      refine J.ic_eq 1365 dL_law_1337 (by decide) (fun hc187 => ?_) (fun hc187 => ?_)
      · have hW := hW.1 hc187
        refine J.iinc (v := x3 + 6) (vs' := [some (.ref (eb E)), some (.ref (eB E + 0)), some (.ref (eB E + 83)), some (.int (x3 + 6))]) dL_law_1365 rfl (by rfl) (by decide) rfl ?_
        refine J.goto 18 dL_law_1368 (by decide) ?_
        exact J.less (bc' := bc) (bs' := bs) hW (by omega) (by omega)
      · have hW := hW.2 hc187
        refine J.iconst (v := 0) dL_law_1340 (by decide) ?_
        exact J.reti dL_law_1341 rfl (bz_nar (Or.inl rfl)) hW
    by_cases hk230 : ((ex E x3.toNatClampNeg) &&& 63) = 34
    · have hW := hW.2.2.2.2.2.2.2.2.2.2.2.2.2.2.2.2.2.2.2.2.2.2.2.2.2.2.2.2.2.2.2.2.2.2.1 hk230
      refine J.tableIn (off := 1309) 1342 dL_law_33 (by rw [hk230] <;> decide) (by rw [hk230] <;> decide) (by rw [hk230] <;> rfl) (by decide) ?_
      refine J.aload_n dL_law_1342 rfl rfl ?_
      refine J.aload_n dL_law_1343 rfl rfl ?_
      refine J.iload_n dL_law_1344 rfl rfl ?_
      refine J.iconst (v := 1) dL_law_1345 (by decide) ?_
      refine J.iadd dL_law_1346 ?_
      obtain ⟨hb, hW⟩ := hW
      refine J.sld (x := ex E (x3 + 1).toNatClampNeg) dL_law_1347 hb rfl ?_
      refine J.less (bc' := bc + 0) (bs' := bs + 0) ?_ (by omega) (by omega)
      refine J.callV (M' := mX11_again) (index := 160) (bc := bc) (bs := bs) (bc' := 0) (bs' := 0) (st := []) [.int (ex E (x3 + 1).toNatClampNeg)] ml_L_160 cv_X11_again dL_law_1348 (lt0 hs) (kk0 hs) (by decide) rfl rfl rfl rfl (Nat.le_of_ble_eq_true rfl) (kgi hW (fun r192 h188 I189 L190 hW => ?_))
      obtain ⟨hs191, hW⟩ := hW
      refine J.aload_n dL_law_1351 rfl rfl ?_
      refine J.aload_n dL_law_1352 rfl rfl ?_
      refine J.iload_n dL_law_1353 rfl rfl ?_
      refine J.iconst (v := 1) dL_law_1354 (by decide) ?_
      refine J.iadd dL_law_1355 ?_
      obtain ⟨hb, hW⟩ := hW
      refine J.sld (x := ex E (x3 + 1).toNatClampNeg) dL_law_1356 hb rfl ?_
      refine J.callV (M' := mX12_again) (index := 163) (bc := bc) (bs := bs) (bc' := 0) (bs' := 0) (st := [.int r192]) [.int (ex E (x3 + 1).toNatClampNeg)] ml_L_163 cv_X12_again dL_law_1357 (lt83 hs191) (kk83 hs191) (by decide) rfl rfl rfl rfl (Nat.le_of_ble_eq_true rfl) (kqi hW (fun r194 I193 hW => ?_))
      refine J.ic_eq 1365 dL_law_1360 (by decide) (fun hc195 => ?_) (fun hc195 => ?_)
      · have hW := hW.1 hc195
        refine J.iinc (v := x3 + 6) (vs' := [some (.ref (eb E)), some (.ref (eB E + 0)), some (.ref (eB E + 83)), some (.int (x3 + 6))]) dL_law_1365 rfl (by rfl) (by decide) rfl ?_
        refine J.goto 18 dL_law_1368 (by decide) ?_
        exact J.less (bc' := bc) (bs' := bs) hW (by omega) (by omega)
      · have hW := hW.2 hc195
        refine J.iconst (v := 0) dL_law_1363 (by decide) ?_
        exact J.reti dL_law_1364 rfl (bz_nar (Or.inl rfl)) hW
    have hW := hW.2.2.2.2.2.2.2.2.2.2.2.2.2.2.2.2.2.2.2.2.2.2.2.2.2.2.2.2.2.2.2.2.2.2.2 hk196 hk197 hk198 hk199 hk200 hk201 hk202 hk203 hk204 hk205 hk206 hk207 hk208 hk209 hk210 hk211 hk212 hk213 hk214 hk215 hk216 hk217 hk218 hk219 hk220 hk221 hk222 hk223 hk224 hk225 hk226 hk227 hk228 hk229 hk230
    refine J.tableOut 1365 dL_law_33 (by have := toInt_ne (k := 0) (by decide) hk196; have := toInt_ne (k := 1) (by decide) hk197; have := toInt_ne (k := 2) (by decide) hk198; have := toInt_ne (k := 3) (by decide) hk199; have := toInt_ne (k := 4) (by decide) hk200; have := toInt_ne (k := 5) (by decide) hk201; have := toInt_ne (k := 6) (by decide) hk202; have := toInt_ne (k := 7) (by decide) hk203; have := toInt_ne (k := 8) (by decide) hk204; have := toInt_ne (k := 9) (by decide) hk205; have := toInt_ne (k := 10) (by decide) hk206; have := toInt_ne (k := 11) (by decide) hk207; have := toInt_ne (k := 12) (by decide) hk208; have := toInt_ne (k := 13) (by decide) hk209; have := toInt_ne (k := 14) (by decide) hk210; have := toInt_ne (k := 15) (by decide) hk211; have := toInt_ne (k := 16) (by decide) hk212; have := toInt_ne (k := 17) (by decide) hk213; have := toInt_ne (k := 18) (by decide) hk214; have := toInt_ne (k := 19) (by decide) hk215; have := toInt_ne (k := 20) (by decide) hk216; have := toInt_ne (k := 21) (by decide) hk217; have := toInt_ne (k := 22) (by decide) hk218; have := toInt_ne (k := 23) (by decide) hk219; have := toInt_ne (k := 24) (by decide) hk220; have := toInt_ne (k := 25) (by decide) hk221; have := toInt_ne (k := 26) (by decide) hk222; have := toInt_ne (k := 27) (by decide) hk223; have := toInt_ne (k := 28) (by decide) hk224; have := toInt_ne (k := 29) (by decide) hk225; have := toInt_ne (k := 30) (by decide) hk226; have := toInt_ne (k := 31) (by decide) hk227; have := toInt_ne (k := 32) (by decide) hk228; have := toInt_ne (k := 33) (by decide) hk229; have := toInt_ne (k := 34) (by decide) hk230; omega) (by decide) ?_
    refine J.iinc (v := x3 + 6) (vs' := [some (.ref (eb E)), some (.ref (eB E + 0)), some (.ref (eB E + 83)), some (.int (x3 + 6))]) dL_law_1365 rfl (by rfl) (by decide) rfl ?_
    refine J.goto 18 dL_law_1368 (by decide) ?_
    exact J.less (bc' := bc) (bs' := bs) hW (by omega) (by omega)
