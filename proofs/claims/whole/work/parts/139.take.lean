/-! takeFrom, by program (take.py) -/
def ksX1 : List (Nat × Nat) := [(1, 0), (14, 8), (14, 8), (14, 8), (14, 8)]
def rsX1 : List (Nat × Nat × Nat) := [(0, 4, 4), (0, 3, 3), (0, 2, 2), (0, 1, 1)]
def ksX7 : List (Nat × Nat) := [(7, 0), (14, 20), (14, 20), (14, 20), (14, 20), (14, 20), (14, 20), (16, 20), (16, 20), (16, 20)]
def rsX7 : List (Nat × Nat × Nat) := [(0, 9, 9), (0, 8, 8), (0, 7, 7), (0, 6, 6), (0, 5, 5), (0, 4, 4), (0, 3, 3), (0, 2, 2), (0, 1, 1)]
def ksX5 : List (Nat × Nat) := [(5, 0), (14, 60), (14, 60), (14, 60), (14, 60), (14, 25), (14, 25)]
def rsX5 : List (Nat × Nat × Nat) := [(0, 6, 6), (0, 5, 5), (0, 4, 4), (0, 3, 3), (0, 2, 2), (0, 1, 1)]
def ksX4 : List (Nat × Nat) := [(4, 0), (14, 30), (14, 30), (14, 30), (14, 30), (14, 30), (14, 30), (14, 30), (14, 30), (14, 330), (18, 30), (18, 30)]
def rsX4 : List (Nat × Nat × Nat) := [(0, 11, 11), (0, 10, 10), (0, 9, 9), (0, 8, 8), (0, 7, 7), (0, 6, 6), (0, 5, 5), (0, 4, 4), (0, 3, 3), (0, 2, 2), (0, 1, 1)]
def ksX0 : List (Nat × Nat) := [(0, 0), (1, 0), (14, 8), (14, 8), (14, 8), (14, 8), (7, 0), (14, 20), (14, 20), (14, 20), (14, 20), (14, 20), (14, 20), (16, 20), (16, 20), (16, 20), (5, 0), (14, 60), (14, 60), (14, 60), (14, 60), (14, 25), (14, 25), (4, 0), (14, 30), (14, 30), (14, 30), (14, 30), (14, 30), (14, 30), (14, 30), (14, 30), (14, 330), (18, 30), (18, 30), (18, 7), (13, 500), (10, 0), (14, 0), (14, 0), (14, 1), (14, 0), (14, 0), (14, 0), (16, 0)]
def rsX0 : List (Nat × Nat × Nat) := [(37, 7, 44), (37, 6, 43), (37, 5, 42), (37, 4, 41), (37, 3, 40), (37, 2, 39), (37, 1, 38), (0, 6, 36), (0, 5, 35), (0, 4, 23), (23, 11, 34), (23, 10, 33), (23, 9, 32), (23, 8, 31), (23, 7, 30), (23, 6, 29), (23, 5, 28), (23, 4, 27), (23, 3, 26), (23, 2, 25), (23, 1, 24), (0, 3, 16), (16, 6, 22), (16, 5, 21), (16, 4, 20), (16, 3, 19), (16, 2, 18), (16, 1, 17), (0, 2, 6), (6, 9, 15), (6, 8, 14), (6, 7, 13), (6, 6, 12), (6, 5, 11), (6, 4, 10), (6, 3, 9), (6, 2, 8), (6, 1, 7), (0, 1, 1), (1, 4, 5), (1, 3, 4), (1, 2, 3), (1, 1, 2)]
def LO (h : mS) (p : Nat) (ks : List (Nat × Nat)) (rs : List (Nat × Nat × Nat)) : Prop := p + ks.length ≤ h.2.2 ∧ (∀ j q, ks[j]? = some q → h.1 (p + j) = q) ∧ ∀ q ∈ rs, h.2.1 (p + q.1) q.2.1 = some (p + q.2.2)
theorem LO.lt {h : mS} {p : Nat} {ks : List (Nat × Nat)} {rs : List (Nat × Nat × Nat)} (m : LO h p ks rs) (j : Nat) {q : Nat × Nat} (hj : ks[j]? = some q) : p + j < h.2.2 := by
  have := (List.getElem?_eq_some_iff.mp hj).1
  have := m.1
  omega
theorem LO.kd {h : mS} {p : Nat} {ks : List (Nat × Nat)} {rs : List (Nat × Nat × Nat)} (m : LO h p ks rs) (j : Nat) {q : Nat × Nat} (hj : ks[j]? = some q) : h.1 (p + j) = q := m.2.1 j q hj
theorem LO.rf {h : mS} {p : Nat} {ks : List (Nat × Nat)} {rs : List (Nat × Nat × Nat)} (m : LO h p ks rs) (q : Nat × Nat × Nat) (hq : q ∈ rs) : h.2.1 (p + q.1) q.2.1 = some (p + q.2.2) := m.2.2 q hq
theorem LO.sub {h : mS} {p : Nat} {ks ks' : List (Nat × Nat)} {rs rs' : List (Nat × Nat × Nat)} (m : LO h p ks rs) (l : Nat) (e0 : l + ks'.length ≤ ks.length) (e1 : (ks.drop l).take ks'.length = ks') (e2 : (rs'.all fun q => rs.contains (l + q.1, q.2.1, l + q.2.2)) = true) : LO h (p + l) ks' rs' := by
  refine ⟨?_, fun j q hj => ?_, fun q hq => ?_⟩
  · have := m.1
    omega
  · rw [← e1, List.getElem?_take] at hj
    split at hj
    · rw [List.getElem?_drop] at hj
      have := m.2.1 (l + j) q hj
      rw [show p + l + j = p + (l + j) by omega]; exact this
    · cases hj
  · have := List.all_eq_true.mp e2 q hq
    have := m.2.2 (l + q.1, q.2.1, l + q.2.2) (by simpa using this)
    rw [show p + l + q.1 = p + (l + q.1) by omega, show p + l + q.2.2 = p + (l + q.2.2) by omega]; exact this
set_option maxRecDepth 100000 in
set_option maxHeartbeats 4000000 in
theorem w_X1_takeFrom {E : Envt} {d : Nat} {Q : Pst} {h : mS} {I : mI} {L : mL} (hs : SL h) {p s : Nat} (lp : LO h p ksX1 rsX1) (ls : LO h s ksX1 rsX1)
    (hW : (CT E mX11_copy (d + 1) 0 0 [.ref (eB E + (s + 1)), .ref (eB E + (p + 1))] h (uI I p 0 (I s 0)) L (qv h L fun I1 => (CT E mX11_copy (d + 1) 0 0 [.ref (eB E + (s + 2)), .ref (eB E + (p + 2))] h I1 L (qv h L fun I2 => (CT E mX11_copy (d + 1) 0 0 [.ref (eB E + (s + 3)), .ref (eB E + (p + 3))] h I2 L (qv h L fun I3 => (CT E mX11_copy (d + 1) 0 0 [.ref (eB E + (s + 4)), .ref (eB E + (p + 4))] h I3 L (qv h L fun I4 => Q none h I4 L))))))))) :
    CT E mX1_takeFrom (d + 2) 0 0 [.ref (eB E + p), .ref (eB E + s)] h I L Q := by
  refine CT.of (by decide) [some (.ref (eB E + p)), some (.ref (eB E + s))] rfl (Nat.le_of_ble_eq_true rfl) ?_
  refine J.aload_n dX1_takeFrom_0 rfl rfl ?_
  refine J.aload_n dX1_takeFrom_1 rfl rfl ?_
  refine J.getI (x := I s 0) fl_X1_24 rfl dX1_takeFrom_2 (ls.lt 0 rfl) (ls.kd 0 rfl) rfl ?_
  refine J.putI fw_X1_24 rfl dX1_takeFrom_5 (lp.lt 0 rfl) (lp.kd 0 rfl) ?_
  refine J.aload_n dX1_takeFrom_8 rfl rfl ?_
  refine J.getR (r := s + 1) fl_X1_9 rfl dX1_takeFrom_9 (ls.lt 0 rfl) (ls.kd 0 rfl) (ls.rf (0, 1, 1) (by decide)) ?_
  refine J.aload_n dX1_takeFrom_12 rfl rfl ?_
  refine J.getR (r := p + 1) fl_X1_9 rfl dX1_takeFrom_13 (lp.lt 0 rfl) (lp.kd 0 rfl) (lp.rf (0, 1, 1) (by decide)) ?_
  refine J.callSN (M' := mX11_copy) (index := 34) (bc := 0) (bs := 0) (bc' := 0) (bs' := 0) (st := []) [.ref (eB E + (s + 1)), .ref (eB E + (p + 1))] nk_X1_34 cv_X11_copy dX1_takeFrom_16 rfl rfl (Nat.le_of_ble_eq_true rfl) (kqv hW (fun I1 hW => ?_))
  refine J.aload_n dX1_takeFrom_19 rfl rfl ?_
  refine J.getR (r := s + 2) fl_X1_15 rfl dX1_takeFrom_20 (ls.lt 0 rfl) (ls.kd 0 rfl) (ls.rf (0, 2, 2) (by decide)) ?_
  refine J.aload_n dX1_takeFrom_23 rfl rfl ?_
  refine J.getR (r := p + 2) fl_X1_15 rfl dX1_takeFrom_24 (lp.lt 0 rfl) (lp.kd 0 rfl) (lp.rf (0, 2, 2) (by decide)) ?_
  refine J.callSN (M' := mX11_copy) (index := 34) (bc := 0) (bs := 0) (bc' := 0) (bs' := 0) (st := []) [.ref (eB E + (s + 2)), .ref (eB E + (p + 2))] nk_X1_34 cv_X11_copy dX1_takeFrom_27 rfl rfl (Nat.le_of_ble_eq_true rfl) (kqv hW (fun I2 hW => ?_))
  refine J.aload_n dX1_takeFrom_30 rfl rfl ?_
  refine J.getR (r := s + 3) fl_X1_18 rfl dX1_takeFrom_31 (ls.lt 0 rfl) (ls.kd 0 rfl) (ls.rf (0, 3, 3) (by decide)) ?_
  refine J.aload_n dX1_takeFrom_34 rfl rfl ?_
  refine J.getR (r := p + 3) fl_X1_18 rfl dX1_takeFrom_35 (lp.lt 0 rfl) (lp.kd 0 rfl) (lp.rf (0, 3, 3) (by decide)) ?_
  refine J.callSN (M' := mX11_copy) (index := 34) (bc := 0) (bs := 0) (bc' := 0) (bs' := 0) (st := []) [.ref (eB E + (s + 3)), .ref (eB E + (p + 3))] nk_X1_34 cv_X11_copy dX1_takeFrom_38 rfl rfl (Nat.le_of_ble_eq_true rfl) (kqv hW (fun I3 hW => ?_))
  refine J.aload_n dX1_takeFrom_41 rfl rfl ?_
  refine J.getR (r := s + 4) fl_X1_21 rfl dX1_takeFrom_42 (ls.lt 0 rfl) (ls.kd 0 rfl) (ls.rf (0, 4, 4) (by decide)) ?_
  refine J.aload_n dX1_takeFrom_45 rfl rfl ?_
  refine J.getR (r := p + 4) fl_X1_21 rfl dX1_takeFrom_46 (lp.lt 0 rfl) (lp.kd 0 rfl) (lp.rf (0, 4, 4) (by decide)) ?_
  refine J.callSN (M' := mX11_copy) (index := 34) (bc := 0) (bs := 0) (bc' := 0) (bs' := 0) (st := []) [.ref (eB E + (s + 4)), .ref (eB E + (p + 4))] nk_X1_34 cv_X11_copy dX1_takeFrom_49 rfl rfl (Nat.le_of_ble_eq_true rfl) (kqv hW (fun I4 hW => ?_))
  exact J.retv dX1_takeFrom_52 rfl hW
set_option maxRecDepth 100000 in
set_option maxHeartbeats 4000000 in
theorem w_X7_takeFrom {E : Envt} {d : Nat} {Q : Pst} {h : mS} {I : mI} {L : mL} (hs : SL h) {p s : Nat} (lp : LO h p ksX7 rsX7) (ls : LO h s ksX7 rsX7)
    (hW : (CT E mX11_copy (d + 1) 0 0 [.ref (eB E + (s + 1)), .ref (eB E + (p + 1))] h (uI I p 0 (I s 0)) L (qv h L fun I1 => (CT E mX11_copy (d + 1) 0 0 [.ref (eB E + (s + 2)), .ref (eB E + (p + 2))] h I1 L (qv h L fun I2 => (CT E mX11_copy (d + 1) 0 0 [.ref (eB E + (s + 3)), .ref (eB E + (p + 3))] h I2 L (qv h L fun I3 => (CT E mX11_copy (d + 1) 0 0 [.ref (eB E + (s + 4)), .ref (eB E + (p + 4))] h I3 L (qv h L fun I4 => (CT E mX11_copy (d + 1) 0 0 [.ref (eB E + (s + 5)), .ref (eB E + (p + 5))] h I4 L (qv h L fun I5 => (CT E mX11_copy (d + 1) 0 0 [.ref (eB E + (s + 6)), .ref (eB E + (p + 6))] h I5 L (qv h L fun I6 => (CT E mX11_copyFlags (d + 1) 0 0 [.ref (eB E + (s + 7)), .ref (eB E + (p + 7))] h I6 L (qv h L fun I7 => (CT E mX11_copyFlags (d + 1) 0 0 [.ref (eB E + (s + 8)), .ref (eB E + (p + 8))] h I7 L (qv h L fun I8 => (CT E mX11_copyFlags (d + 1) 0 0 [.ref (eB E + (s + 9)), .ref (eB E + (p + 9))] h I8 L (qv h L fun I9 => Q none h I9 L))))))))))))))))))) :
    CT E mX7_takeFrom (d + 2) 0 0 [.ref (eB E + p), .ref (eB E + s)] h I L Q := by
  refine CT.of (by decide) [some (.ref (eB E + p)), some (.ref (eB E + s))] rfl (Nat.le_of_ble_eq_true rfl) ?_
  refine J.aload_n dX7_takeFrom_0 rfl rfl ?_
  refine J.aload_n dX7_takeFrom_1 rfl rfl ?_
  refine J.getI (x := I s 0) fl_X7_40 rfl dX7_takeFrom_2 (ls.lt 0 rfl) (ls.kd 0 rfl) rfl ?_
  refine J.putI fw_X7_40 rfl dX7_takeFrom_5 (lp.lt 0 rfl) (lp.kd 0 rfl) ?_
  refine J.aload_n dX7_takeFrom_8 rfl rfl ?_
  refine J.getR (r := s + 1) fl_X7_9 rfl dX7_takeFrom_9 (ls.lt 0 rfl) (ls.kd 0 rfl) (ls.rf (0, 1, 1) (by decide)) ?_
  refine J.aload_n dX7_takeFrom_12 rfl rfl ?_
  refine J.getR (r := p + 1) fl_X7_9 rfl dX7_takeFrom_13 (lp.lt 0 rfl) (lp.kd 0 rfl) (lp.rf (0, 1, 1) (by decide)) ?_
  refine J.callSN (M' := mX11_copy) (index := 55) (bc := 0) (bs := 0) (bc' := 0) (bs' := 0) (st := []) [.ref (eB E + (s + 1)), .ref (eB E + (p + 1))] nk_X7_55 cv_X11_copy dX7_takeFrom_16 rfl rfl (Nat.le_of_ble_eq_true rfl) (kqv hW (fun I1 hW => ?_))
  refine J.aload_n dX7_takeFrom_19 rfl rfl ?_
  refine J.getR (r := s + 2) fl_X7_15 rfl dX7_takeFrom_20 (ls.lt 0 rfl) (ls.kd 0 rfl) (ls.rf (0, 2, 2) (by decide)) ?_
  refine J.aload_n dX7_takeFrom_23 rfl rfl ?_
  refine J.getR (r := p + 2) fl_X7_15 rfl dX7_takeFrom_24 (lp.lt 0 rfl) (lp.kd 0 rfl) (lp.rf (0, 2, 2) (by decide)) ?_
  refine J.callSN (M' := mX11_copy) (index := 55) (bc := 0) (bs := 0) (bc' := 0) (bs' := 0) (st := []) [.ref (eB E + (s + 2)), .ref (eB E + (p + 2))] nk_X7_55 cv_X11_copy dX7_takeFrom_27 rfl rfl (Nat.le_of_ble_eq_true rfl) (kqv hW (fun I2 hW => ?_))
  refine J.aload_n dX7_takeFrom_30 rfl rfl ?_
  refine J.getR (r := s + 3) fl_X7_18 rfl dX7_takeFrom_31 (ls.lt 0 rfl) (ls.kd 0 rfl) (ls.rf (0, 3, 3) (by decide)) ?_
  refine J.aload_n dX7_takeFrom_34 rfl rfl ?_
  refine J.getR (r := p + 3) fl_X7_18 rfl dX7_takeFrom_35 (lp.lt 0 rfl) (lp.kd 0 rfl) (lp.rf (0, 3, 3) (by decide)) ?_
  refine J.callSN (M' := mX11_copy) (index := 55) (bc := 0) (bs := 0) (bc' := 0) (bs' := 0) (st := []) [.ref (eB E + (s + 3)), .ref (eB E + (p + 3))] nk_X7_55 cv_X11_copy dX7_takeFrom_38 rfl rfl (Nat.le_of_ble_eq_true rfl) (kqv hW (fun I3 hW => ?_))
  refine J.aload_n dX7_takeFrom_41 rfl rfl ?_
  refine J.getR (r := s + 4) fl_X7_21 rfl dX7_takeFrom_42 (ls.lt 0 rfl) (ls.kd 0 rfl) (ls.rf (0, 4, 4) (by decide)) ?_
  refine J.aload_n dX7_takeFrom_45 rfl rfl ?_
  refine J.getR (r := p + 4) fl_X7_21 rfl dX7_takeFrom_46 (lp.lt 0 rfl) (lp.kd 0 rfl) (lp.rf (0, 4, 4) (by decide)) ?_
  refine J.callSN (M' := mX11_copy) (index := 55) (bc := 0) (bs := 0) (bc' := 0) (bs' := 0) (st := []) [.ref (eB E + (s + 4)), .ref (eB E + (p + 4))] nk_X7_55 cv_X11_copy dX7_takeFrom_49 rfl rfl (Nat.le_of_ble_eq_true rfl) (kqv hW (fun I4 hW => ?_))
  refine J.aload_n dX7_takeFrom_52 rfl rfl ?_
  refine J.getR (r := s + 5) fl_X7_24 rfl dX7_takeFrom_53 (ls.lt 0 rfl) (ls.kd 0 rfl) (ls.rf (0, 5, 5) (by decide)) ?_
  refine J.aload_n dX7_takeFrom_56 rfl rfl ?_
  refine J.getR (r := p + 5) fl_X7_24 rfl dX7_takeFrom_57 (lp.lt 0 rfl) (lp.kd 0 rfl) (lp.rf (0, 5, 5) (by decide)) ?_
  refine J.callSN (M' := mX11_copy) (index := 55) (bc := 0) (bs := 0) (bc' := 0) (bs' := 0) (st := []) [.ref (eB E + (s + 5)), .ref (eB E + (p + 5))] nk_X7_55 cv_X11_copy dX7_takeFrom_60 rfl rfl (Nat.le_of_ble_eq_true rfl) (kqv hW (fun I5 hW => ?_))
  refine J.aload_n dX7_takeFrom_63 rfl rfl ?_
  refine J.getR (r := s + 6) fl_X7_27 rfl dX7_takeFrom_64 (ls.lt 0 rfl) (ls.kd 0 rfl) (ls.rf (0, 6, 6) (by decide)) ?_
  refine J.aload_n dX7_takeFrom_67 rfl rfl ?_
  refine J.getR (r := p + 6) fl_X7_27 rfl dX7_takeFrom_68 (lp.lt 0 rfl) (lp.kd 0 rfl) (lp.rf (0, 6, 6) (by decide)) ?_
  refine J.callSN (M' := mX11_copy) (index := 55) (bc := 0) (bs := 0) (bc' := 0) (bs' := 0) (st := []) [.ref (eB E + (s + 6)), .ref (eB E + (p + 6))] nk_X7_55 cv_X11_copy dX7_takeFrom_71 rfl rfl (Nat.le_of_ble_eq_true rfl) (kqv hW (fun I6 hW => ?_))
  refine J.aload_n dX7_takeFrom_74 rfl rfl ?_
  refine J.getR (r := s + 7) fl_X7_30 rfl dX7_takeFrom_75 (ls.lt 0 rfl) (ls.kd 0 rfl) (ls.rf (0, 7, 7) (by decide)) ?_
  refine J.aload_n dX7_takeFrom_78 rfl rfl ?_
  refine J.getR (r := p + 7) fl_X7_30 rfl dX7_takeFrom_79 (lp.lt 0 rfl) (lp.kd 0 rfl) (lp.rf (0, 7, 7) (by decide)) ?_
  refine J.callSN (M' := mX11_copyFlags) (index := 59) (bc := 0) (bs := 0) (bc' := 0) (bs' := 0) (st := []) [.ref (eB E + (s + 7)), .ref (eB E + (p + 7))] nk_X7_59 cv_X11_copyFlags dX7_takeFrom_82 rfl rfl (Nat.le_of_ble_eq_true rfl) (kqv hW (fun I7 hW => ?_))
  refine J.aload_n dX7_takeFrom_85 rfl rfl ?_
  refine J.getR (r := s + 8) fl_X7_34 rfl dX7_takeFrom_86 (ls.lt 0 rfl) (ls.kd 0 rfl) (ls.rf (0, 8, 8) (by decide)) ?_
  refine J.aload_n dX7_takeFrom_89 rfl rfl ?_
  refine J.getR (r := p + 8) fl_X7_34 rfl dX7_takeFrom_90 (lp.lt 0 rfl) (lp.kd 0 rfl) (lp.rf (0, 8, 8) (by decide)) ?_
  refine J.callSN (M' := mX11_copyFlags) (index := 59) (bc := 0) (bs := 0) (bc' := 0) (bs' := 0) (st := []) [.ref (eB E + (s + 8)), .ref (eB E + (p + 8))] nk_X7_59 cv_X11_copyFlags dX7_takeFrom_93 rfl rfl (Nat.le_of_ble_eq_true rfl) (kqv hW (fun I8 hW => ?_))
  refine J.aload_n dX7_takeFrom_96 rfl rfl ?_
  refine J.getR (r := s + 9) fl_X7_37 rfl dX7_takeFrom_97 (ls.lt 0 rfl) (ls.kd 0 rfl) (ls.rf (0, 9, 9) (by decide)) ?_
  refine J.aload_n dX7_takeFrom_100 rfl rfl ?_
  refine J.getR (r := p + 9) fl_X7_37 rfl dX7_takeFrom_101 (lp.lt 0 rfl) (lp.kd 0 rfl) (lp.rf (0, 9, 9) (by decide)) ?_
  refine J.callSN (M' := mX11_copyFlags) (index := 59) (bc := 0) (bs := 0) (bc' := 0) (bs' := 0) (st := []) [.ref (eB E + (s + 9)), .ref (eB E + (p + 9))] nk_X7_59 cv_X11_copyFlags dX7_takeFrom_104 rfl rfl (Nat.le_of_ble_eq_true rfl) (kqv hW (fun I9 hW => ?_))
  exact J.retv dX7_takeFrom_107 rfl hW
set_option maxRecDepth 100000 in
set_option maxHeartbeats 4000000 in
theorem w_X5_takeFrom {E : Envt} {d : Nat} {Q : Pst} {h : mS} {I : mI} {L : mL} (hs : SL h) {p s : Nat} (lp : LO h p ksX5 rsX5) (ls : LO h s ksX5 rsX5)
    (hW : (CT E mX11_copy (d + 1) 0 0 [.ref (eB E + (s + 1)), .ref (eB E + (p + 1))] h (uI I p 0 (I s 0)) L (qv h L fun I1 => (CT E mX11_copy (d + 1) 0 0 [.ref (eB E + (s + 2)), .ref (eB E + (p + 2))] h I1 L (qv h L fun I2 => (CT E mX11_copy (d + 1) 0 0 [.ref (eB E + (s + 3)), .ref (eB E + (p + 3))] h I2 L (qv h L fun I3 => (CT E mX11_copy (d + 1) 0 0 [.ref (eB E + (s + 4)), .ref (eB E + (p + 4))] h I3 L (qv h L fun I4 => (CT E mX11_copy (d + 1) 0 0 [.ref (eB E + (s + 5)), .ref (eB E + (p + 5))] h I4 L (qv h L fun I5 => (CT E mX11_copy (d + 1) 0 0 [.ref (eB E + (s + 6)), .ref (eB E + (p + 6))] h I5 L (qv h L fun I6 => Q none h I6 L))))))))))))) :
    CT E mX5_takeFrom (d + 2) 0 0 [.ref (eB E + p), .ref (eB E + s)] h I L Q := by
  refine CT.of (by decide) [some (.ref (eB E + p)), some (.ref (eB E + s))] rfl (Nat.le_of_ble_eq_true rfl) ?_
  refine J.aload_n dX5_takeFrom_0 rfl rfl ?_
  refine J.aload_n dX5_takeFrom_1 rfl rfl ?_
  refine J.getI (x := I s 0) fl_X5_48 rfl dX5_takeFrom_2 (ls.lt 0 rfl) (ls.kd 0 rfl) rfl ?_
  refine J.putI fw_X5_48 rfl dX5_takeFrom_5 (lp.lt 0 rfl) (lp.kd 0 rfl) ?_
  refine J.aload_n dX5_takeFrom_8 rfl rfl ?_
  refine J.getR (r := s + 1) fl_X5_9 rfl dX5_takeFrom_9 (ls.lt 0 rfl) (ls.kd 0 rfl) (ls.rf (0, 1, 1) (by decide)) ?_
  refine J.aload_n dX5_takeFrom_12 rfl rfl ?_
  refine J.getR (r := p + 1) fl_X5_9 rfl dX5_takeFrom_13 (lp.lt 0 rfl) (lp.kd 0 rfl) (lp.rf (0, 1, 1) (by decide)) ?_
  refine J.callSN (M' := mX11_copy) (index := 36) (bc := 0) (bs := 0) (bc' := 0) (bs' := 0) (st := []) [.ref (eB E + (s + 1)), .ref (eB E + (p + 1))] nk_X5_36 cv_X11_copy dX5_takeFrom_16 rfl rfl (Nat.le_of_ble_eq_true rfl) (kqv hW (fun I1 hW => ?_))
  refine J.aload_n dX5_takeFrom_19 rfl rfl ?_
  refine J.getR (r := s + 2) fl_X5_15 rfl dX5_takeFrom_20 (ls.lt 0 rfl) (ls.kd 0 rfl) (ls.rf (0, 2, 2) (by decide)) ?_
  refine J.aload_n dX5_takeFrom_23 rfl rfl ?_
  refine J.getR (r := p + 2) fl_X5_15 rfl dX5_takeFrom_24 (lp.lt 0 rfl) (lp.kd 0 rfl) (lp.rf (0, 2, 2) (by decide)) ?_
  refine J.callSN (M' := mX11_copy) (index := 36) (bc := 0) (bs := 0) (bc' := 0) (bs' := 0) (st := []) [.ref (eB E + (s + 2)), .ref (eB E + (p + 2))] nk_X5_36 cv_X11_copy dX5_takeFrom_27 rfl rfl (Nat.le_of_ble_eq_true rfl) (kqv hW (fun I2 hW => ?_))
  refine J.aload_n dX5_takeFrom_30 rfl rfl ?_
  refine J.getR (r := s + 3) fl_X5_18 rfl dX5_takeFrom_31 (ls.lt 0 rfl) (ls.kd 0 rfl) (ls.rf (0, 3, 3) (by decide)) ?_
  refine J.aload_n dX5_takeFrom_34 rfl rfl ?_
  refine J.getR (r := p + 3) fl_X5_18 rfl dX5_takeFrom_35 (lp.lt 0 rfl) (lp.kd 0 rfl) (lp.rf (0, 3, 3) (by decide)) ?_
  refine J.callSN (M' := mX11_copy) (index := 36) (bc := 0) (bs := 0) (bc' := 0) (bs' := 0) (st := []) [.ref (eB E + (s + 3)), .ref (eB E + (p + 3))] nk_X5_36 cv_X11_copy dX5_takeFrom_38 rfl rfl (Nat.le_of_ble_eq_true rfl) (kqv hW (fun I3 hW => ?_))
  refine J.aload_n dX5_takeFrom_41 rfl rfl ?_
  refine J.getR (r := s + 4) fl_X5_21 rfl dX5_takeFrom_42 (ls.lt 0 rfl) (ls.kd 0 rfl) (ls.rf (0, 4, 4) (by decide)) ?_
  refine J.aload_n dX5_takeFrom_45 rfl rfl ?_
  refine J.getR (r := p + 4) fl_X5_21 rfl dX5_takeFrom_46 (lp.lt 0 rfl) (lp.kd 0 rfl) (lp.rf (0, 4, 4) (by decide)) ?_
  refine J.callSN (M' := mX11_copy) (index := 36) (bc := 0) (bs := 0) (bc' := 0) (bs' := 0) (st := []) [.ref (eB E + (s + 4)), .ref (eB E + (p + 4))] nk_X5_36 cv_X11_copy dX5_takeFrom_49 rfl rfl (Nat.le_of_ble_eq_true rfl) (kqv hW (fun I4 hW => ?_))
  refine J.aload_n dX5_takeFrom_52 rfl rfl ?_
  refine J.getR (r := s + 5) fl_X5_24 rfl dX5_takeFrom_53 (ls.lt 0 rfl) (ls.kd 0 rfl) (ls.rf (0, 5, 5) (by decide)) ?_
  refine J.aload_n dX5_takeFrom_56 rfl rfl ?_
  refine J.getR (r := p + 5) fl_X5_24 rfl dX5_takeFrom_57 (lp.lt 0 rfl) (lp.kd 0 rfl) (lp.rf (0, 5, 5) (by decide)) ?_
  refine J.callSN (M' := mX11_copy) (index := 36) (bc := 0) (bs := 0) (bc' := 0) (bs' := 0) (st := []) [.ref (eB E + (s + 5)), .ref (eB E + (p + 5))] nk_X5_36 cv_X11_copy dX5_takeFrom_60 rfl rfl (Nat.le_of_ble_eq_true rfl) (kqv hW (fun I5 hW => ?_))
  refine J.aload_n dX5_takeFrom_63 rfl rfl ?_
  refine J.getR (r := s + 6) fl_X5_27 rfl dX5_takeFrom_64 (ls.lt 0 rfl) (ls.kd 0 rfl) (ls.rf (0, 6, 6) (by decide)) ?_
  refine J.aload_n dX5_takeFrom_67 rfl rfl ?_
  refine J.getR (r := p + 6) fl_X5_27 rfl dX5_takeFrom_68 (lp.lt 0 rfl) (lp.kd 0 rfl) (lp.rf (0, 6, 6) (by decide)) ?_
  refine J.callSN (M' := mX11_copy) (index := 36) (bc := 0) (bs := 0) (bc' := 0) (bs' := 0) (st := []) [.ref (eB E + (s + 6)), .ref (eB E + (p + 6))] nk_X5_36 cv_X11_copy dX5_takeFrom_71 rfl rfl (Nat.le_of_ble_eq_true rfl) (kqv hW (fun I6 hW => ?_))
  exact J.retv dX5_takeFrom_74 rfl hW
set_option maxRecDepth 100000 in
set_option maxHeartbeats 4000000 in
theorem w_X4_takeFrom {E : Envt} {d : Nat} {Q : Pst} {h : mS} {I : mI} {L : mL} (hs : SL h) {p s : Nat} (lp : LO h p ksX4 rsX4) (ls : LO h s ksX4 rsX4)
    (hW : (CT E mX11_copy (d + 1) 0 0 [.ref (eB E + (s + 1)), .ref (eB E + (p + 1))] h (uI I p 0 (I s 0)) L (qv h L fun I1 => (CT E mX11_copy (d + 1) 0 0 [.ref (eB E + (s + 2)), .ref (eB E + (p + 2))] h I1 L (qv h L fun I2 => (CT E mX11_copy (d + 1) 0 0 [.ref (eB E + (s + 3)), .ref (eB E + (p + 3))] h I2 L (qv h L fun I3 => (CT E mX11_copy (d + 1) 0 0 [.ref (eB E + (s + 4)), .ref (eB E + (p + 4))] h I3 L (qv h L fun I4 => (CT E mX11_copy (d + 1) 0 0 [.ref (eB E + (s + 5)), .ref (eB E + (p + 5))] h I4 L (qv h L fun I5 => (CT E mX11_copy (d + 1) 0 0 [.ref (eB E + (s + 6)), .ref (eB E + (p + 6))] h I5 L (qv h L fun I6 => (CT E mX11_copy (d + 1) 0 0 [.ref (eB E + (s + 7)), .ref (eB E + (p + 7))] h I6 L (qv h L fun I7 => (CT E mX11_copy (d + 1) 0 0 [.ref (eB E + (s + 8)), .ref (eB E + (p + 8))] h I7 L (qv h L fun I8 => (CT E mX11_copy (d + 1) 0 0 [.ref (eB E + (s + 9)), .ref (eB E + (p + 9))] h I8 L (qv h L fun I9 => (CT E mX11_copyTexts (d + 1) 0 0 [.ref (eB E + (s + 10)), .ref (eB E + (p + 10))] h I9 L (gv fun h10 I11 L12 => SL h10 ∧ LO h10 p ksX4 rsX4 ∧ LO h10 s ksX4 rsX4 ∧ (CT E mX11_copyTexts (d + 1) 0 0 [.ref (eB E + (s + 11)), .ref (eB E + (p + 11))] h10 I11 L12 (gv fun h16 I17 L18 => SL h16 ∧ LO h16 p ksX4 rsX4 ∧ LO h16 s ksX4 rsX4 ∧ Q none h16 I17 L18))))))))))))))))))))))) :
    CT E mX4_takeFrom (d + 2) 0 0 [.ref (eB E + p), .ref (eB E + s)] h I L Q := by
  refine CT.of (by decide) [some (.ref (eB E + p)), some (.ref (eB E + s))] rfl (Nat.le_of_ble_eq_true rfl) ?_
  refine J.aload_n dX4_takeFrom_0 rfl rfl ?_
  refine J.aload_n dX4_takeFrom_1 rfl rfl ?_
  refine J.getI (x := I s 0) fl_X4_48 rfl dX4_takeFrom_2 (ls.lt 0 rfl) (ls.kd 0 rfl) rfl ?_
  refine J.putI fw_X4_48 rfl dX4_takeFrom_5 (lp.lt 0 rfl) (lp.kd 0 rfl) ?_
  refine J.aload_n dX4_takeFrom_8 rfl rfl ?_
  refine J.getR (r := s + 1) fl_X4_9 rfl dX4_takeFrom_9 (ls.lt 0 rfl) (ls.kd 0 rfl) (ls.rf (0, 1, 1) (by decide)) ?_
  refine J.aload_n dX4_takeFrom_12 rfl rfl ?_
  refine J.getR (r := p + 1) fl_X4_9 rfl dX4_takeFrom_13 (lp.lt 0 rfl) (lp.kd 0 rfl) (lp.rf (0, 1, 1) (by decide)) ?_
  refine J.callSN (M' := mX11_copy) (index := 70) (bc := 0) (bs := 0) (bc' := 0) (bs' := 0) (st := []) [.ref (eB E + (s + 1)), .ref (eB E + (p + 1))] nk_X4_70 cv_X11_copy dX4_takeFrom_16 rfl rfl (Nat.le_of_ble_eq_true rfl) (kqv hW (fun I1 hW => ?_))
  refine J.aload_n dX4_takeFrom_19 rfl rfl ?_
  refine J.getR (r := s + 2) fl_X4_15 rfl dX4_takeFrom_20 (ls.lt 0 rfl) (ls.kd 0 rfl) (ls.rf (0, 2, 2) (by decide)) ?_
  refine J.aload_n dX4_takeFrom_23 rfl rfl ?_
  refine J.getR (r := p + 2) fl_X4_15 rfl dX4_takeFrom_24 (lp.lt 0 rfl) (lp.kd 0 rfl) (lp.rf (0, 2, 2) (by decide)) ?_
  refine J.callSN (M' := mX11_copy) (index := 70) (bc := 0) (bs := 0) (bc' := 0) (bs' := 0) (st := []) [.ref (eB E + (s + 2)), .ref (eB E + (p + 2))] nk_X4_70 cv_X11_copy dX4_takeFrom_27 rfl rfl (Nat.le_of_ble_eq_true rfl) (kqv hW (fun I2 hW => ?_))
  refine J.aload_n dX4_takeFrom_30 rfl rfl ?_
  refine J.getR (r := s + 3) fl_X4_18 rfl dX4_takeFrom_31 (ls.lt 0 rfl) (ls.kd 0 rfl) (ls.rf (0, 3, 3) (by decide)) ?_
  refine J.aload_n dX4_takeFrom_34 rfl rfl ?_
  refine J.getR (r := p + 3) fl_X4_18 rfl dX4_takeFrom_35 (lp.lt 0 rfl) (lp.kd 0 rfl) (lp.rf (0, 3, 3) (by decide)) ?_
  refine J.callSN (M' := mX11_copy) (index := 70) (bc := 0) (bs := 0) (bc' := 0) (bs' := 0) (st := []) [.ref (eB E + (s + 3)), .ref (eB E + (p + 3))] nk_X4_70 cv_X11_copy dX4_takeFrom_38 rfl rfl (Nat.le_of_ble_eq_true rfl) (kqv hW (fun I3 hW => ?_))
  refine J.aload_n dX4_takeFrom_41 rfl rfl ?_
  refine J.getR (r := s + 4) fl_X4_21 rfl dX4_takeFrom_42 (ls.lt 0 rfl) (ls.kd 0 rfl) (ls.rf (0, 4, 4) (by decide)) ?_
  refine J.aload_n dX4_takeFrom_45 rfl rfl ?_
  refine J.getR (r := p + 4) fl_X4_21 rfl dX4_takeFrom_46 (lp.lt 0 rfl) (lp.kd 0 rfl) (lp.rf (0, 4, 4) (by decide)) ?_
  refine J.callSN (M' := mX11_copy) (index := 70) (bc := 0) (bs := 0) (bc' := 0) (bs' := 0) (st := []) [.ref (eB E + (s + 4)), .ref (eB E + (p + 4))] nk_X4_70 cv_X11_copy dX4_takeFrom_49 rfl rfl (Nat.le_of_ble_eq_true rfl) (kqv hW (fun I4 hW => ?_))
  refine J.aload_n dX4_takeFrom_52 rfl rfl ?_
  refine J.getR (r := s + 5) fl_X4_24 rfl dX4_takeFrom_53 (ls.lt 0 rfl) (ls.kd 0 rfl) (ls.rf (0, 5, 5) (by decide)) ?_
  refine J.aload_n dX4_takeFrom_56 rfl rfl ?_
  refine J.getR (r := p + 5) fl_X4_24 rfl dX4_takeFrom_57 (lp.lt 0 rfl) (lp.kd 0 rfl) (lp.rf (0, 5, 5) (by decide)) ?_
  refine J.callSN (M' := mX11_copy) (index := 70) (bc := 0) (bs := 0) (bc' := 0) (bs' := 0) (st := []) [.ref (eB E + (s + 5)), .ref (eB E + (p + 5))] nk_X4_70 cv_X11_copy dX4_takeFrom_60 rfl rfl (Nat.le_of_ble_eq_true rfl) (kqv hW (fun I5 hW => ?_))
  refine J.aload_n dX4_takeFrom_63 rfl rfl ?_
  refine J.getR (r := s + 6) fl_X4_27 rfl dX4_takeFrom_64 (ls.lt 0 rfl) (ls.kd 0 rfl) (ls.rf (0, 6, 6) (by decide)) ?_
  refine J.aload_n dX4_takeFrom_67 rfl rfl ?_
  refine J.getR (r := p + 6) fl_X4_27 rfl dX4_takeFrom_68 (lp.lt 0 rfl) (lp.kd 0 rfl) (lp.rf (0, 6, 6) (by decide)) ?_
  refine J.callSN (M' := mX11_copy) (index := 70) (bc := 0) (bs := 0) (bc' := 0) (bs' := 0) (st := []) [.ref (eB E + (s + 6)), .ref (eB E + (p + 6))] nk_X4_70 cv_X11_copy dX4_takeFrom_71 rfl rfl (Nat.le_of_ble_eq_true rfl) (kqv hW (fun I6 hW => ?_))
  refine J.aload_n dX4_takeFrom_74 rfl rfl ?_
  refine J.getR (r := s + 7) fl_X4_30 rfl dX4_takeFrom_75 (ls.lt 0 rfl) (ls.kd 0 rfl) (ls.rf (0, 7, 7) (by decide)) ?_
  refine J.aload_n dX4_takeFrom_78 rfl rfl ?_
  refine J.getR (r := p + 7) fl_X4_30 rfl dX4_takeFrom_79 (lp.lt 0 rfl) (lp.kd 0 rfl) (lp.rf (0, 7, 7) (by decide)) ?_
  refine J.callSN (M' := mX11_copy) (index := 70) (bc := 0) (bs := 0) (bc' := 0) (bs' := 0) (st := []) [.ref (eB E + (s + 7)), .ref (eB E + (p + 7))] nk_X4_70 cv_X11_copy dX4_takeFrom_82 rfl rfl (Nat.le_of_ble_eq_true rfl) (kqv hW (fun I7 hW => ?_))
  refine J.aload_n dX4_takeFrom_85 rfl rfl ?_
  refine J.getR (r := s + 8) fl_X4_33 rfl dX4_takeFrom_86 (ls.lt 0 rfl) (ls.kd 0 rfl) (ls.rf (0, 8, 8) (by decide)) ?_
  refine J.aload_n dX4_takeFrom_89 rfl rfl ?_
  refine J.getR (r := p + 8) fl_X4_33 rfl dX4_takeFrom_90 (lp.lt 0 rfl) (lp.kd 0 rfl) (lp.rf (0, 8, 8) (by decide)) ?_
  refine J.callSN (M' := mX11_copy) (index := 70) (bc := 0) (bs := 0) (bc' := 0) (bs' := 0) (st := []) [.ref (eB E + (s + 8)), .ref (eB E + (p + 8))] nk_X4_70 cv_X11_copy dX4_takeFrom_93 rfl rfl (Nat.le_of_ble_eq_true rfl) (kqv hW (fun I8 hW => ?_))
  refine J.aload_n dX4_takeFrom_96 rfl rfl ?_
  refine J.getR (r := s + 9) fl_X4_36 rfl dX4_takeFrom_97 (ls.lt 0 rfl) (ls.kd 0 rfl) (ls.rf (0, 9, 9) (by decide)) ?_
  refine J.aload_n dX4_takeFrom_100 rfl rfl ?_
  refine J.getR (r := p + 9) fl_X4_36 rfl dX4_takeFrom_101 (lp.lt 0 rfl) (lp.kd 0 rfl) (lp.rf (0, 9, 9) (by decide)) ?_
  refine J.callSN (M' := mX11_copy) (index := 70) (bc := 0) (bs := 0) (bc' := 0) (bs' := 0) (st := []) [.ref (eB E + (s + 9)), .ref (eB E + (p + 9))] nk_X4_70 cv_X11_copy dX4_takeFrom_104 rfl rfl (Nat.le_of_ble_eq_true rfl) (kqv hW (fun I9 hW => ?_))
  refine J.aload_n dX4_takeFrom_107 rfl rfl ?_
  refine J.getR (r := s + 10) fl_X4_41 rfl dX4_takeFrom_108 (ls.lt 0 rfl) (ls.kd 0 rfl) (ls.rf (0, 10, 10) (by decide)) ?_
  refine J.aload_n dX4_takeFrom_111 rfl rfl ?_
  refine J.getR (r := p + 10) fl_X4_41 rfl dX4_takeFrom_112 (lp.lt 0 rfl) (lp.kd 0 rfl) (lp.rf (0, 10, 10) (by decide)) ?_
  refine J.callSN (M' := mX11_copyTexts) (index := 74) (bc := 0) (bs := 0) (bc' := 0) (bs' := 0) (st := []) [.ref (eB E + (s + 10)), .ref (eB E + (p + 10))] nk_X4_74 cv_X11_copyTexts dX4_takeFrom_115 rfl rfl (Nat.le_of_ble_eq_true rfl) (kgv hW (fun h10 I11 L12 hW => ?_))
  obtain ⟨hs13, hW⟩ := hW
  obtain ⟨lo14, lo15, hW⟩ := hW
  refine J.aload_n dX4_takeFrom_118 rfl rfl ?_
  refine J.getR (r := s + 11) fl_X4_45 rfl dX4_takeFrom_119 (lo15.lt 0 rfl) (lo15.kd 0 rfl) (lo15.rf (0, 11, 11) (by decide)) ?_
  refine J.aload_n dX4_takeFrom_122 rfl rfl ?_
  refine J.getR (r := p + 11) fl_X4_45 rfl dX4_takeFrom_123 (lo14.lt 0 rfl) (lo14.kd 0 rfl) (lo14.rf (0, 11, 11) (by decide)) ?_
  refine J.callSN (M' := mX11_copyTexts) (index := 74) (bc := 0) (bs := 0) (bc' := 0) (bs' := 0) (st := []) [.ref (eB E + (s + 11)), .ref (eB E + (p + 11))] nk_X4_74 cv_X11_copyTexts dX4_takeFrom_126 rfl rfl (Nat.le_of_ble_eq_true rfl) (kgv hW (fun h16 I17 L18 hW => ?_))
  obtain ⟨hs19, hW⟩ := hW
  obtain ⟨lo20, lo21, hW⟩ := hW
  exact J.retv dX4_takeFrom_129 rfl hW
set_option maxRecDepth 100000 in
set_option maxHeartbeats 4000000 in
theorem w_X0_takeFrom {E : Envt} {d : Nat} {Q : Pst} {h : mS} {I : mI} {L : mL} (hs : SL h) {p s : Nat} (lp : LO h p ksX0 rsX0) (ls : LO h s ksX0 rsX0)
    (hW : (CT E mX1_takeFrom (d + 2) 0 0 [.ref (eB E + (p + 1)), .ref (eB E + (s + 1))] h (uI I p 0 (I s 0)) L (qv h L fun I1 => (CT E mX7_takeFrom (d + 2) 0 0 [.ref (eB E + (p + 6)), .ref (eB E + (s + 6))] h I1 L (qv h L fun I2 => (CT E mX5_takeFrom (d + 2) 0 0 [.ref (eB E + (p + 16)), .ref (eB E + (s + 16))] h I2 L (qv h L fun I3 => (CT E mX4_takeFrom (d + 2) 0 0 [.ref (eB E + (p + 23)), .ref (eB E + (s + 23))] h I3 L (gv fun h4 I5 L6 => SL h4 ∧ LO h4 p ksX0 rsX0 ∧ LO h4 s ksX0 rsX0 ∧ (CT E mX11_copyTexts (d + 2) 0 0 [.ref (eB E + (s + 35)), .ref (eB E + (p + 35))] h4 I5 L6 (gv fun h10 I11 L12 => SL h10 ∧ LO h10 p ksX0 rsX0 ∧ LO h10 s ksX0 rsX0 ∧ ((¬ (I11 s 7) < 0) ∧ ((0 + (I11 s 7).toNatClampNeg ≤ 500) ∧ ((0 + (I11 s 7).toNatClampNeg ≤ 500) ∧ ((∀ i, i < (I11 s 7).toNatClampNeg → fits .byte (.int (I11 (s + 36) (0 + i))) = true) ∧ Q none h10 (uI (uI (uI (cpI I11 (s + 36) (p + 36) 0 0 (I11 s 7).toNatClampNeg) p 7 ((cpI I11 (s + 36) (p + 36) 0 0 (I11 s 7).toNatClampNeg) s 7)) p 8 ((uI (cpI I11 (s + 36) (p + 36) 0 0 (I11 s 7).toNatClampNeg) p 7 ((cpI I11 (s + 36) (p + 36) 0 0 (I11 s 7).toNatClampNeg) s 7)) s 8)) p 9 ((uI (uI (cpI I11 (s + 36) (p + 36) 0 0 (I11 s 7).toNatClampNeg) p 7 ((cpI I11 (s + 36) (p + 36) 0 0 (I11 s 7).toNatClampNeg) s 7)) p 8 ((uI (cpI I11 (s + 36) (p + 36) 0 0 (I11 s 7).toNatClampNeg) p 7 ((cpI I11 (s + 36) (p + 36) 0 0 (I11 s 7).toNatClampNeg) s 7)) s 8)) s 9)) L12))))))))))))))) :
    CT E mX0_takeFrom (d + 3) 0 0 [.ref (eB E + p), .ref (eB E + s)] h I L Q := by
  refine CT.of (by decide) [some (.ref (eB E + p)), some (.ref (eB E + s))] rfl (Nat.le_of_ble_eq_true rfl) ?_
  refine J.aload_n dX0_takeFrom_0 rfl rfl ?_
  refine J.aload_n dX0_takeFrom_1 rfl rfl ?_
  refine J.getI (x := I s 0) fl_X0_66 rfl dX0_takeFrom_2 (ls.lt 0 rfl) (ls.kd 0 rfl) rfl ?_
  refine J.putI fw_X0_66 rfl dX0_takeFrom_5 (lp.lt 0 rfl) (lp.kd 0 rfl) ?_
  refine J.aload_n dX0_takeFrom_8 rfl rfl ?_
  refine J.getR (r := p + 1) fl_X0_12 rfl dX0_takeFrom_9 (lp.lt 0 rfl) (lp.kd 0 rfl) (lp.rf (0, 1, 1) (by decide)) ?_
  refine J.aload_n dX0_takeFrom_12 rfl rfl ?_
  refine J.getR (r := s + 1) fl_X0_12 rfl dX0_takeFrom_13 (ls.lt 0 rfl) (ls.kd 0 rfl) (ls.rf (0, 1, 1) (by decide)) ?_
  refine J.callV (M' := mX1_takeFrom) (index := 69) (bc := 0) (bs := 0) (bc' := 0) (bs' := 0) (st := []) [.ref (eB E + (s + 1))] ml_X0_69 cv_X1_takeFrom dX0_takeFrom_16 (lp.lt 1 rfl) (lp.kd 1 rfl) (by decide) rfl rfl rfl rfl (Nat.le_of_ble_eq_true rfl) (kqv hW (fun I1 hW => ?_))
  refine J.aload_n dX0_takeFrom_19 rfl rfl ?_
  refine J.getR (r := p + 6) fl_X0_21 rfl dX0_takeFrom_20 (lp.lt 0 rfl) (lp.kd 0 rfl) (lp.rf (0, 2, 6) (by decide)) ?_
  refine J.aload_n dX0_takeFrom_23 rfl rfl ?_
  refine J.getR (r := s + 6) fl_X0_21 rfl dX0_takeFrom_24 (ls.lt 0 rfl) (ls.kd 0 rfl) (ls.rf (0, 2, 6) (by decide)) ?_
  refine J.callV (M' := mX7_takeFrom) (index := 73) (bc := 0) (bs := 0) (bc' := 0) (bs' := 0) (st := []) [.ref (eB E + (s + 6))] ml_X0_73 cv_X7_takeFrom dX0_takeFrom_27 (lp.lt 6 rfl) (lp.kd 6 rfl) (by decide) rfl rfl rfl rfl (Nat.le_of_ble_eq_true rfl) (kqv hW (fun I2 hW => ?_))
  refine J.aload_n dX0_takeFrom_30 rfl rfl ?_
  refine J.getR (r := p + 16) fl_X0_28 rfl dX0_takeFrom_31 (lp.lt 0 rfl) (lp.kd 0 rfl) (lp.rf (0, 3, 16) (by decide)) ?_
  refine J.aload_n dX0_takeFrom_34 rfl rfl ?_
  refine J.getR (r := s + 16) fl_X0_28 rfl dX0_takeFrom_35 (ls.lt 0 rfl) (ls.kd 0 rfl) (ls.rf (0, 3, 16) (by decide)) ?_
  refine J.callV (M' := mX5_takeFrom) (index := 76) (bc := 0) (bs := 0) (bc' := 0) (bs' := 0) (st := []) [.ref (eB E + (s + 16))] ml_X0_76 cv_X5_takeFrom dX0_takeFrom_38 (lp.lt 16 rfl) (lp.kd 16 rfl) (by decide) rfl rfl rfl rfl (Nat.le_of_ble_eq_true rfl) (kqv hW (fun I3 hW => ?_))
  refine J.aload_n dX0_takeFrom_41 rfl rfl ?_
  refine J.getR (r := p + 23) fl_X0_35 rfl dX0_takeFrom_42 (lp.lt 0 rfl) (lp.kd 0 rfl) (lp.rf (0, 4, 23) (by decide)) ?_
  refine J.aload_n dX0_takeFrom_45 rfl rfl ?_
  refine J.getR (r := s + 23) fl_X0_35 rfl dX0_takeFrom_46 (ls.lt 0 rfl) (ls.kd 0 rfl) (ls.rf (0, 4, 23) (by decide)) ?_
  refine J.callV (M' := mX4_takeFrom) (index := 79) (bc := 0) (bs := 0) (bc' := 0) (bs' := 0) (st := []) [.ref (eB E + (s + 23))] ml_X0_79 cv_X4_takeFrom dX0_takeFrom_49 (lp.lt 23 rfl) (lp.kd 23 rfl) (by decide) rfl rfl rfl rfl (Nat.le_of_ble_eq_true rfl) (kgv hW (fun h4 I5 L6 hW => ?_))
  obtain ⟨hs7, hW⟩ := hW
  obtain ⟨lo8, lo9, hW⟩ := hW
  refine J.aload_n dX0_takeFrom_52 rfl rfl ?_
  refine J.getR (r := s + 35) fl_X0_41 rfl dX0_takeFrom_53 (lo9.lt 0 rfl) (lo9.kd 0 rfl) (lo9.rf (0, 5, 35) (by decide)) ?_
  refine J.aload_n dX0_takeFrom_56 rfl rfl ?_
  refine J.getR (r := p + 35) fl_X0_41 rfl dX0_takeFrom_57 (lo8.lt 0 rfl) (lo8.kd 0 rfl) (lo8.rf (0, 5, 35) (by decide)) ?_
  refine J.callSN (M' := mX11_copyTexts) (index := 82) (bc := 0) (bs := 0) (bc' := 0) (bs' := 0) (st := []) [.ref (eB E + (s + 35)), .ref (eB E + (p + 35))] nk_X0_82 cv_X11_copyTexts dX0_takeFrom_60 rfl rfl (Nat.le_of_ble_eq_true rfl) (kgv hW (fun h10 I11 L12 hW => ?_))
  obtain ⟨hs13, hW⟩ := hW
  obtain ⟨lo14, lo15, hW⟩ := hW
  refine J.aload_n dX0_takeFrom_63 rfl rfl ?_
  refine J.getR (r := s + 36) fl_X0_45 rfl dX0_takeFrom_64 (lo15.lt 0 rfl) (lo15.kd 0 rfl) (lo15.rf (0, 6, 36) (by decide)) ?_
  refine J.iconst (v := 0) dX0_takeFrom_67 (by decide) ?_
  refine J.aload_n dX0_takeFrom_68 rfl rfl ?_
  refine J.getR (r := p + 36) fl_X0_45 rfl dX0_takeFrom_69 (lo14.lt 0 rfl) (lo14.kd 0 rfl) (lo14.rf (0, 6, 36) (by decide)) ?_
  refine J.iconst (v := 0) dX0_takeFrom_72 (by decide) ?_
  refine J.aload_n dX0_takeFrom_73 rfl rfl ?_
  refine J.getI (x := I11 s 7) fl_X0_56 rfl dX0_takeFrom_74 (lo15.lt 0 rfl) (lo15.kd 0 rfl) rfl ?_
  obtain ⟨hn16, hW⟩ := hW
  obtain ⟨hn17, hW⟩ := hW
  obtain ⟨hn18, hW⟩ := hW
  obtain ⟨hf19, hW⟩ := hW
  refine J.copyB ml_X0_86 dX0_takeFrom_77 (Nat.le_of_ble_eq_true rfl) (lo15.lt 36 rfl) (lo15.kd 36 rfl) (lo14.lt 36 rfl) (lo14.kd 36 rfl) (by decide) (by decide) hn16 hn17 hn18 hf19 ac_native ac_static inJ10 ?_
  refine J.aload_n dX0_takeFrom_80 rfl rfl ?_
  refine J.aload_n dX0_takeFrom_81 rfl rfl ?_
  refine J.getI (x := (cpI I11 (s + 36) (p + 36) 0 0 (I11 s 7).toNatClampNeg) s 7) fl_X0_56 rfl dX0_takeFrom_82 (lo15.lt 0 rfl) (lo15.kd 0 rfl) rfl ?_
  refine J.putI fw_X0_56 rfl dX0_takeFrom_85 (lo14.lt 0 rfl) (lo14.kd 0 rfl) ?_
  refine J.aload_n dX0_takeFrom_88 rfl rfl ?_
  refine J.aload_n dX0_takeFrom_89 rfl rfl ?_
  refine J.getI (x := (uI (cpI I11 (s + 36) (p + 36) 0 0 (I11 s 7).toNatClampNeg) p 7 ((cpI I11 (s + 36) (p + 36) 0 0 (I11 s 7).toNatClampNeg) s 7)) s 8) fl_X0_92 rfl dX0_takeFrom_90 (lo15.lt 0 rfl) (lo15.kd 0 rfl) rfl ?_
  refine J.putI fw_X0_92 rfl dX0_takeFrom_93 (lo14.lt 0 rfl) (lo14.kd 0 rfl) ?_
  refine J.aload_n dX0_takeFrom_96 rfl rfl ?_
  refine J.aload_n dX0_takeFrom_97 rfl rfl ?_
  refine J.getI (x := (uI (uI (cpI I11 (s + 36) (p + 36) 0 0 (I11 s 7).toNatClampNeg) p 7 ((cpI I11 (s + 36) (p + 36) 0 0 (I11 s 7).toNatClampNeg) s 7)) p 8 ((uI (cpI I11 (s + 36) (p + 36) 0 0 (I11 s 7).toNatClampNeg) p 7 ((cpI I11 (s + 36) (p + 36) 0 0 (I11 s 7).toNatClampNeg) s 7)) s 8)) s 9) fl_X0_49 rfl dX0_takeFrom_98 (lo15.lt 0 rfl) (lo15.kd 0 rfl) rfl ?_
  refine J.putI fw_X0_49 rfl dX0_takeFrom_101 (lo14.lt 0 rfl) (lo14.kd 0 rfl) ?_
  exact J.retv dX0_takeFrom_104 rfl hW
