/-! the abstract book: V, by the addresses of the reference's arrays -/
def cH (V : mI) : Nat := (V 90 0).toNatClampNeg
def cP (V : mI) : Nat := (V 95 0).toNatClampNeg
def cN (V : mI) : Nat := (V 104 0).toNatClampNeg
def cM (V : mI) : Nat := (V 106 0).toNatClampNeg
def cY (V : mI) : Nat := (V 88 0).toNatClampNeg
def cT (V : mI) : Nat := (V 85 0).toNatClampNeg
/-- a number of 0 .. n - 1 -/
def inN (x : Int32) (n : Nat) : Prop := ∃ j : Nat, j < n ∧ x = nI j
/-- the first of n with p, or -1 -/
def fstI (p : Nat → Bool) (n : Nat) : Int32 := if fa_first p n < n then nI (fa_first p n) else (-1)
def opB (V : mI) (m : Nat) : Bool := decide (V 109 m = 0) || decide (V 109 m = 1)
def hasB (V : mI) (p m : Nat) : Bool := opB V m && (decide (V 107 m = nI p) || decide (V 108 m = nI p))
/-- the open match of a person -/
def opA (V : mI) (p : Nat) : Int32 := fstI (hasB V p) (cM V)
def fdB (V : mI) (a b : Nat) : Bool := bt (V 94 a) b

def WfS (V : mI) : Prop :=
  (V 88 0 = nI (cY V)) ∧
  (cY V ≤ 300) ∧
  (V 85 0 = nI (cT V)) ∧
  (cT V ≤ 500) ∧
  (∀ i, i < 500 → -128 ≤ (V 84 i).toInt ∧ (V 84 i).toInt ≤ 127)
theorem WfS.y {V : mI} (w : WfS V) : V 88 0 = nI (cY V) := w.1
theorem WfS.y3 {V : mI} (w : WfS V) : cY V ≤ 300 := w.2.1
theorem WfS.t {V : mI} (w : WfS V) : V 85 0 = nI (cT V) := w.2.2.1
theorem WfS.t5 {V : mI} (w : WfS V) : cT V ≤ 500 := w.2.2.2.1
theorem WfS.tb {V : mI} (w : WfS V) : ∀ i, i < 500 → -128 ≤ (V 84 i).toInt ∧ (V 84 i).toInt ≤ 127 := w.2.2.2.2
def WfH (V : mI) : Prop :=
  (V 90 0 = nI (cH V)) ∧
  (cH V ≤ 8) ∧
  (∀ i, i < 8 → inN (V 92 i) 5) ∧
  (∀ i j, i < 8 → j < 8 → fdB V i j = fdB V j i) ∧
  (∀ i, i < 8 → fdB V i i = false) ∧
  (∀ i j, i < 8 → fdB V i j = true → i < cH V ∧ j < cH V)
theorem WfH.n {V : mI} (w : WfH V) : V 90 0 = nI (cH V) := w.1
theorem WfH.n8 {V : mI} (w : WfH V) : cH V ≤ 8 := w.2.1
theorem WfH.vil {V : mI} (w : WfH V) : ∀ i, i < 8 → inN (V 92 i) 5 := w.2.2.1
theorem WfH.fs {V : mI} (w : WfH V) : ∀ i j, i < 8 → j < 8 → fdB V i j = fdB V j i := w.2.2.2.1
theorem WfH.fd {V : mI} (w : WfH V) : ∀ i, i < 8 → fdB V i i = false := w.2.2.2.2.1
theorem WfH.fb {V : mI} (w : WfH V) : ∀ i j, i < 8 → fdB V i j = true → i < cH V ∧ j < cH V := w.2.2.2.2.2
def WfP (V : mI) : Prop :=
  (V 95 0 = nI (cP V)) ∧
  (cP V ≤ 20) ∧
  (∀ i, i < 20 → inN (V 96 i) 8) ∧
  (∀ i, i < 20 → V 97 i = 0 ∨ V 97 i = 1) ∧
  (∀ i, i < 20 → inN (V 98 i) 8) ∧
  (∀ i, i < 20 → -80 ≤ (V 99 i).toInt ∧ (V 99 i).toInt ≤ 300) ∧
  (∀ i, i < 20 → bz (V 100 i)) ∧
  (∀ i, i < 20 → bz (V 102 i)) ∧
  (∀ i, i < 20 → bz (V 103 i)) ∧
  (∀ i, i < cP V → V 101 i = (-1) ∨ inN (V 101 i) (cP V))
theorem WfP.n {V : mI} (w : WfP V) : V 95 0 = nI (cP V) := w.1
theorem WfP.n20 {V : mI} (w : WfP V) : cP V ≤ 20 := w.2.1
theorem WfP.hou {V : mI} (w : WfP V) : ∀ i, i < 20 → inN (V 96 i) 8 := w.2.2.1
theorem WfP.kin {V : mI} (w : WfP V) : ∀ i, i < 20 → V 97 i = 0 ∨ V 97 i = 1 := w.2.2.2.1
theorem WfP.sta {V : mI} (w : WfP V) : ∀ i, i < 20 → inN (V 98 i) 8 := w.2.2.2.2.1
theorem WfP.bor {V : mI} (w : WfP V) : ∀ i, i < 20 → -80 ≤ (V 99 i).toInt ∧ (V 99 i).toInt ≤ 300 := w.2.2.2.2.2.1
theorem WfP.dea {V : mI} (w : WfP V) : ∀ i, i < 20 → bz (V 100 i) := w.2.2.2.2.2.2.1
theorem WfP.wid {V : mI} (w : WfP V) : ∀ i, i < 20 → bz (V 102 i) := w.2.2.2.2.2.2.2.1
theorem WfP.eve {V : mI} (w : WfP V) : ∀ i, i < 20 → bz (V 103 i) := w.2.2.2.2.2.2.2.2.1
theorem WfP.spo {V : mI} (w : WfP V) : ∀ i, i < cP V → V 101 i = (-1) ∨ inN (V 101 i) (cP V) := w.2.2.2.2.2.2.2.2.2
def WfN (V : mI) : Prop :=
  (V 104 0 = nI (cN V)) ∧
  (cN V ≤ 60) ∧
  (∀ k, k < cN V → inN (V 105 (4 * k)) (cP V)) ∧
  (∀ k, k < cN V → inN (V 105 (4 * k + 1)) (cP V)) ∧
  (∀ k, k < cN V → inN (V 105 (4 * k + 2)) 5) ∧
  (∀ k, k < cN V → inN (V 105 (4 * k + 3)) 301) ∧
  (∀ k c f, k < cN V → V 105 (4 * k) = nI c → V 105 (4 * k + 1) = nI f → c < 20 → f < 20 → V 99 f < V 99 c)
theorem WfN.n {V : mI} (w : WfN V) : V 104 0 = nI (cN V) := w.1
theorem WfN.n60 {V : mI} (w : WfN V) : cN V ≤ 60 := w.2.1
theorem WfN.chi {V : mI} (w : WfN V) : ∀ k, k < cN V → inN (V 105 (4 * k)) (cP V) := w.2.2.1
theorem WfN.par {V : mI} (w : WfN V) : ∀ k, k < cN V → inN (V 105 (4 * k + 1)) (cP V) := w.2.2.2.1
theorem WfN.at {V : mI} (w : WfN V) : ∀ k, k < cN V → inN (V 105 (4 * k + 2)) 5 := w.2.2.2.2.1
theorem WfN.in {V : mI} (w : WfN V) : ∀ k, k < cN V → inN (V 105 (4 * k + 3)) 301 := w.2.2.2.2.2.1
theorem WfN.old {V : mI} (w : WfN V) : ∀ k c f, k < cN V → V 105 (4 * k) = nI c → V 105 (4 * k + 1) = nI f → c < 20 → f < 20 → V 99 f < V 99 c := w.2.2.2.2.2.2
def WfR (V : mI) : Prop :=
  (∀ a b, a < 5 → b < 5 → V 89 (5 * a + b) = V 89 (5 * b + a)) ∧
  (∀ a b, a < 5 → b < 5 → V 89 (5 * a + b) = (-1) ∨ inN (V 89 (5 * a + b)) 10)
theorem WfR.sym {V : mI} (w : WfR V) : ∀ a b, a < 5 → b < 5 → V 89 (5 * a + b) = V 89 (5 * b + a) := w.1
theorem WfR.rng {V : mI} (w : WfR V) : ∀ a b, a < 5 → b < 5 → V 89 (5 * a + b) = (-1) ∨ inN (V 89 (5 * a + b)) 10 := w.2
def WfM (V : mI) : Prop :=
  (V 106 0 = nI (cM V)) ∧
  (cM V ≤ 30) ∧
  (∀ m, m < cM V → ∃ p, p < cP V ∧ V 107 m = nI p ∧ V 97 p = 0) ∧
  (∀ m, m < cM V → ∃ p, p < cP V ∧ V 108 m = nI p ∧ V 97 p = 1) ∧
  (∀ m, m < cM V → inN (V 109 m) 5) ∧
  (∀ m, m < cM V → inN (V 110 m) 159985) ∧
  (∀ m, m < cM V → inN (V 111 m) 101) ∧
  (∀ m, m < cM V → V 109 m = 0 → V 112 m = 0) ∧
  (∀ m, m < cM V → V 109 m = 1 → V 112 m = V 110 m / 2) ∧
  (∀ m k, m < cM V → k < cM V → opB V m = true → opB V k = true → (V 107 m = V 107 k ∨ V 108 m = V 108 k) → m = k)
theorem WfM.n {V : mI} (w : WfM V) : V 106 0 = nI (cM V) := w.1
theorem WfM.n30 {V : mI} (w : WfM V) : cM V ≤ 30 := w.2.1
theorem WfM.bri {V : mI} (w : WfM V) : ∀ m, m < cM V → ∃ p, p < cP V ∧ V 107 m = nI p ∧ V 97 p = 0 := w.2.2.1
theorem WfM.gro {V : mI} (w : WfM V) : ∀ m, m < cM V → ∃ p, p < cP V ∧ V 108 m = nI p ∧ V 97 p = 1 := w.2.2.2.1
theorem WfM.sta {V : mI} (w : WfM V) : ∀ m, m < cM V → inN (V 109 m) 5 := w.2.2.2.2.1
theorem WfM.gif {V : mI} (w : WfM V) : ∀ m, m < cM V → inN (V 110 m) 159985 := w.2.2.2.2.2.1
theorem WfM.bac {V : mI} (w : WfM V) : ∀ m, m < cM V → inN (V 111 m) 101 := w.2.2.2.2.2.2.1
theorem WfM.pa0 {V : mI} (w : WfM V) : ∀ m, m < cM V → V 109 m = 0 → V 112 m = 0 := w.2.2.2.2.2.2.2.1
theorem WfM.pa1 {V : mI} (w : WfM V) : ∀ m, m < cM V → V 109 m = 1 → V 112 m = V 110 m / 2 := w.2.2.2.2.2.2.2.2.1
theorem WfM.one {V : mI} (w : WfM V) : ∀ m k, m < cM V → k < cM V → opB V m = true → opB V k = true → (V 107 m = V 107 k ∨ V 108 m = V 108 k) → m = k := w.2.2.2.2.2.2.2.2.2
def WfT (V : mI) : Prop :=
  (∀ x, x < 67 → inN (V 116 x) 17) ∧
  (∀ r, r < 1072 → inN (V 117 r) 5) ∧
  (∀ x l, x < 67 → l < 16 → x ≠ 5 → x ≠ 6 → V 118 (16 * x + l) = 0 ∨ V 118 (16 * x + l) = 1 ∨ V 118 (16 * x + l) = 2) ∧
  (∀ x l, x = 5 ∨ x = 6 → l < 16 → nI l < V 116 x → V 118 (16 * x + l) = 3 ∨ V 118 (16 * x + l) = 4) ∧
  (∀ r, r < 1072 → inN (V 119 r) 10000) ∧
  (∀ r, r < 1072 → V 118 r = 2 → inN (V 119 r) 101) ∧
  (∀ q, q < 4288 → ∃ w, w < 11 ∧ (V 120 q = nI w ∨ V 120 q = nI (w + 16))) ∧
  (∀ r j, r < 1072 → j < 4 → nI j < V 117 r → (V 120 (4 * r + j) &&& 15) < 5 → V 121 (4 * r + j) = 61 ∧ V 122 (4 * r + j) = 1) ∧
  (∀ r j, r < 1072 → j < 4 → nI j < V 117 r → V 121 (4 * r + j) = 60 ∨ V 121 (4 * r + j) = 61 ∨ V 121 (4 * r + j) = 62)
theorem WfT.li {V : mI} (w : WfT V) : ∀ x, x < 67 → inN (V 116 x) 17 := w.1
theorem WfT.te {V : mI} (w : WfT V) : ∀ r, r < 1072 → inN (V 117 r) 5 := w.2.1
theorem WfT.ac {V : mI} (w : WfT V) : ∀ x l, x < 67 → l < 16 → x ≠ 5 → x ≠ 6 → V 118 (16 * x + l) = 0 ∨ V 118 (16 * x + l) = 1 ∨ V 118 (16 * x + l) = 2 := w.2.2.1
theorem WfT.aw {V : mI} (w : WfT V) : ∀ x l, x = 5 ∨ x = 6 → l < 16 → nI l < V 116 x → V 118 (16 * x + l) = 3 ∨ V 118 (16 * x + l) = 4 := w.2.2.2.1
theorem WfT.nu {V : mI} (w : WfT V) : ∀ r, r < 1072 → inN (V 119 r) 10000 := w.2.2.2.2.1
theorem WfT.nb {V : mI} (w : WfT V) : ∀ r, r < 1072 → V 118 r = 2 → inN (V 119 r) 101 := w.2.2.2.2.2.1
theorem WfT.wh {V : mI} (w : WfT V) : ∀ q, q < 4288 → ∃ w, w < 11 ∧ (V 120 q = nI w ∨ V 120 q = nI (w + 16)) := w.2.2.2.2.2.2.1
theorem WfT.fl {V : mI} (w : WfT V) : ∀ r j, r < 1072 → j < 4 → nI j < V 117 r → (V 120 (4 * r + j) &&& 15) < 5 → V 121 (4 * r + j) = 61 ∧ V 122 (4 * r + j) = 1 := w.2.2.2.2.2.2.2.1
theorem WfT.si {V : mI} (w : WfT V) : ∀ r j, r < 1072 → j < 4 → nI j < V 117 r → V 121 (4 * r + j) = 60 ∨ V 121 (4 * r + j) = 61 ∨ V 121 (4 * r + j) = 62 := w.2.2.2.2.2.2.2.2
def WfW (V : mI) : Prop :=
  (∀ m j, m < 30 → j < 5 → V 115 (11 * m + j) = 0 ∨ V 115 (11 * m + j) = 1)
theorem WfW.fla {V : mI} (w : WfW V) : ∀ m j, m < 30 → j < 5 → V 115 (11 * m + j) = 0 ∨ V 115 (11 * m + j) = 1 := w
def Wf (V : mI) : Prop :=
  (WfS V) ∧
  (WfH V) ∧
  (WfP V) ∧
  (WfN V) ∧
  (WfR V) ∧
  (WfM V) ∧
  (WfT V) ∧
  (WfW V)
theorem Wf.S {V : mI} (w : Wf V) : WfS V := w.1
theorem Wf.H {V : mI} (w : Wf V) : WfH V := w.2.1
theorem Wf.P {V : mI} (w : Wf V) : WfP V := w.2.2.1
theorem Wf.N {V : mI} (w : Wf V) : WfN V := w.2.2.2.1
theorem Wf.R {V : mI} (w : Wf V) : WfR V := w.2.2.2.2.1
theorem Wf.M {V : mI} (w : Wf V) : WfM V := w.2.2.2.2.2.1
theorem Wf.T {V : mI} (w : Wf V) : WfT V := w.2.2.2.2.2.2.1
theorem Wf.W {V : mI} (w : Wf V) : WfW V := w.2.2.2.2.2.2.2
/-! how long news take: the reference's relaxation -/
def rlx (r : Nat → Int32) (a b : Nat) (t : Nat → Int32) : Nat → Int32 := upd t b (if ¬ a = b ∧ ¬ r (5 * a + b) = (-1) ∧ ¬ t b ≤ t a + r (5 * a + b) then t a + r (5 * a + b) else t b)
def tkB (r : Nat → Int32) (a : Nat) : Nat → (Nat → Int32) → Nat → Int32
  | 0, t => t
  | b + 1, t => rlx r a b (tkB r a b t)
def tkA (r : Nat → Int32) : Nat → (Nat → Int32) → Nat → Int32
  | 0, t => t
  | a + 1, t => tkB r a 5 (tkA r a t)
def tkR (r : Nat → Int32) : Nat → (Nat → Int32) → Nat → Int32
  | 0, t => t
  | k + 1, t => tkA r 5 (tkR r k t)
def tk0 (v : Nat) : Nat → Int32 := fun i => if i = v then 0 else 1000
def tkS (V : mI) (v : Nat) : Nat → Int32 := tkR (V 89) 5 (tk0 v)
def wyA (V : mI) (a v : Nat) : Int32 := if 1000 ≤ tkS V v a then (-1) else tkS V v a
/-! texts -/
def tcn (V : mI) (r : Nat) : Nat := (V 117 r).toNatClampNeg
def ftA (V : mI) (x l : Nat) : Nat := fb_sm (fun i => tcn V (16 * x + i)) l
def flg (V : mI) (q : Nat) : Prop := (V 120 q &&& 15) < 5

/-- text x of V lies at t -/
def TRn (h : mS) (I V : mI) (t x nl : Nat) : Prop :=
  (nl ≤ 16) ∧
  (LT h t nl (ftA V x nl)) ∧
  (t = 38 ∨ 147 ≤ t) ∧
  (I t 0 = nI nl) ∧
  (V 116 x = nI nl) ∧
  (∀ l, l ≤ nl → I (t + 3) l = nI (ftA V x l)) ∧
  (∀ l, l < nl → I (t + 1) l = V 118 (16 * x + l)) ∧
  (∀ l, l < nl → I (t + 2) l = V 119 (16 * x + l)) ∧
  (∀ l j, l < nl → j < tcn V (16 * x + l) → I (t + 4) (ftA V x l + j) = V 120 (4 * (16 * x + l) + j) &&& 15) ∧
  (∀ l j, l < nl → j < tcn V (16 * x + l) → I (t + 5) (ftA V x l + j) = if (V 120 (4 * (16 * x + l) + j) &&& 15) < 5 then 0 else V 121 (4 * (16 * x + l) + j)) ∧
  (∀ l j, l < nl → j < tcn V (16 * x + l) → I (t + 6) (ftA V x l + j) = if (V 120 (4 * (16 * x + l) + j) &&& 15) < 5 then 0 else V 122 (4 * (16 * x + l) + j)) ∧
  (∀ l j, l < nl → j < tcn V (16 * x + l) → I (t + 7) (ftA V x l + j) = if 15 < V 120 (4 * (16 * x + l) + j) then 1 else 0)
theorem TRn.l16 {h : mS} {I V : mI} {t x nl : Nat} (w : TRn h I V t x nl) : nl ≤ 16 := w.1
theorem TRn.LT {h : mS} {I V : mI} {t x nl : Nat} (w : TRn h I V t x nl) : LT h t nl (ftA V x nl) := w.2.1
theorem TRn.lo {h : mS} {I V : mI} {t x nl : Nat} (w : TRn h I V t x nl) : t = 38 ∨ 147 ≤ t := w.2.2.1
theorem TRn.n {h : mS} {I V : mI} {t x nl : Nat} (w : TRn h I V t x nl) : I t 0 = nI nl := w.2.2.2.1
theorem TRn.v {h : mS} {I V : mI} {t x nl : Nat} (w : TRn h I V t x nl) : V 116 x = nI nl := w.2.2.2.2.1
theorem TRn.ft {h : mS} {I V : mI} {t x nl : Nat} (w : TRn h I V t x nl) : ∀ l, l ≤ nl → I (t + 3) l = nI (ftA V x l) := w.2.2.2.2.2.1
theorem TRn.ac {h : mS} {I V : mI} {t x nl : Nat} (w : TRn h I V t x nl) : ∀ l, l < nl → I (t + 1) l = V 118 (16 * x + l) := w.2.2.2.2.2.2.1
theorem TRn.nu {h : mS} {I V : mI} {t x nl : Nat} (w : TRn h I V t x nl) : ∀ l, l < nl → I (t + 2) l = V 119 (16 * x + l) := w.2.2.2.2.2.2.2.1
theorem TRn.su {h : mS} {I V : mI} {t x nl : Nat} (w : TRn h I V t x nl) : ∀ l j, l < nl → j < tcn V (16 * x + l) → I (t + 4) (ftA V x l + j) = V 120 (4 * (16 * x + l) + j) &&& 15 := w.2.2.2.2.2.2.2.2.1
theorem TRn.si {h : mS} {I V : mI} {t x nl : Nat} (w : TRn h I V t x nl) : ∀ l j, l < nl → j < tcn V (16 * x + l) → I (t + 5) (ftA V x l + j) = if (V 120 (4 * (16 * x + l) + j) &&& 15) < 5 then 0 else V 121 (4 * (16 * x + l) + j) := w.2.2.2.2.2.2.2.2.2.1
theorem TRn.bo {h : mS} {I V : mI} {t x nl : Nat} (w : TRn h I V t x nl) : ∀ l j, l < nl → j < tcn V (16 * x + l) → I (t + 6) (ftA V x l + j) = if (V 120 (4 * (16 * x + l) + j) &&& 15) < 5 then 0 else V 122 (4 * (16 * x + l) + j) := w.2.2.2.2.2.2.2.2.2.2.1
theorem TRn.no {h : mS} {I V : mI} {t x nl : Nat} (w : TRn h I V t x nl) : ∀ l j, l < nl → j < tcn V (16 * x + l) → I (t + 7) (ftA V x l + j) = if 15 < V 120 (4 * (16 * x + l) + j) then 1 else 0 := w.2.2.2.2.2.2.2.2.2.2.2
def TR (h : mS) (I V : mI) (t x : Nat) : Prop := ∃ nl, TRn h I V t x nl
def BkS (I : mI) (b : Nat) (V : mI) : Prop :=
  (I b 0 = V 88 0) ∧
  (I b 7 = V 85 0) ∧
  (I b 8 = V 86 0) ∧
  (I b 9 = V 87 0) ∧
  (∀ i, i < cT V → I (b + 36) i = V 84 i)
theorem BkS.y {I : mI} {b : Nat} {V : mI} (w : BkS I b V) : I b 0 = V 88 0 := w.1
theorem BkS.t {I : mI} {b : Nat} {V : mI} (w : BkS I b V) : I b 7 = V 85 0 := w.2.1
theorem BkS.f {I : mI} {b : Nat} {V : mI} (w : BkS I b V) : I b 8 = V 86 0 := w.2.2.1
theorem BkS.p {I : mI} {b : Nat} {V : mI} (w : BkS I b V) : I b 9 = V 87 0 := w.2.2.2.1
theorem BkS.tape {I : mI} {b : Nat} {V : mI} (w : BkS I b V) : ∀ i, i < cT V → I (b + 36) i = V 84 i := w.2.2.2.2
def BkH (I : mI) (b : Nat) (V : mI) : Prop :=
  (I (b + 1) 0 = V 90 0) ∧
  (∀ i, i < 8 → I (b + 2) i = V 91 i) ∧
  (∀ i, i < 8 → I (b + 3) i = V 92 i) ∧
  (∀ i, i < 8 → I (b + 4) i = V 93 i) ∧
  (∀ i, i < 8 → I (b + 5) i = V 94 i)
theorem BkH.n {I : mI} {b : Nat} {V : mI} (w : BkH I b V) : I (b + 1) 0 = V 90 0 := w.1
theorem BkH.clan {I : mI} {b : Nat} {V : mI} (w : BkH I b V) : ∀ i, i < 8 → I (b + 2) i = V 91 i := w.2.1
theorem BkH.vil {I : mI} {b : Nat} {V : mI} (w : BkH I b V) : ∀ i, i < 8 → I (b + 3) i = V 92 i := w.2.2.1
theorem BkH.coin {I : mI} {b : Nat} {V : mI} (w : BkH I b V) : ∀ i, i < 8 → I (b + 4) i = V 93 i := w.2.2.2.1
theorem BkH.feud {I : mI} {b : Nat} {V : mI} (w : BkH I b V) : ∀ i, i < 8 → I (b + 5) i = V 94 i := w.2.2.2.2
def BkP (I : mI) (b : Nat) (V : mI) : Prop :=
  (I (b + 6) 0 = V 95 0) ∧
  (∀ i, i < 20 → I (b + 7) i = V 96 i) ∧
  (∀ i, i < 20 → I (b + 8) i = V 97 i) ∧
  (∀ i, i < 20 → I (b + 9) i = V 98 i) ∧
  (∀ i, i < 20 → I (b + 10) i = V 99 i) ∧
  (∀ i, i < 20 → I (b + 11) i = V 101 i) ∧
  (∀ i, i < cP V → I (b + 13) i = if V 100 i = 0 then 1 else 0) ∧
  (∀ i, i < 20 → I (b + 14) i = V 102 i) ∧
  (∀ i, i < cP V → V 97 i = 0 → I (b + 15) i = V 103 i) ∧
  (∀ i, i < 20 → bz (I (b + 13) i)) ∧
  (∀ i, i < 20 → bz (I (b + 15) i))
theorem BkP.n {I : mI} {b : Nat} {V : mI} (w : BkP I b V) : I (b + 6) 0 = V 95 0 := w.1
theorem BkP.hou {I : mI} {b : Nat} {V : mI} (w : BkP I b V) : ∀ i, i < 20 → I (b + 7) i = V 96 i := w.2.1
theorem BkP.kin {I : mI} {b : Nat} {V : mI} (w : BkP I b V) : ∀ i, i < 20 → I (b + 8) i = V 97 i := w.2.2.1
theorem BkP.sta {I : mI} {b : Nat} {V : mI} (w : BkP I b V) : ∀ i, i < 20 → I (b + 9) i = V 98 i := w.2.2.2.1
theorem BkP.bor {I : mI} {b : Nat} {V : mI} (w : BkP I b V) : ∀ i, i < 20 → I (b + 10) i = V 99 i := w.2.2.2.2.1
theorem BkP.spo {I : mI} {b : Nat} {V : mI} (w : BkP I b V) : ∀ i, i < 20 → I (b + 11) i = V 101 i := w.2.2.2.2.2.1
theorem BkP.ali {I : mI} {b : Nat} {V : mI} (w : BkP I b V) : ∀ i, i < cP V → I (b + 13) i = if V 100 i = 0 then 1 else 0 := w.2.2.2.2.2.2.1
theorem BkP.wid {I : mI} {b : Nat} {V : mI} (w : BkP I b V) : ∀ i, i < 20 → I (b + 14) i = V 102 i := w.2.2.2.2.2.2.2.1
theorem BkP.was {I : mI} {b : Nat} {V : mI} (w : BkP I b V) : ∀ i, i < cP V → V 97 i = 0 → I (b + 15) i = V 103 i := w.2.2.2.2.2.2.2.2.1
theorem BkP.alz {I : mI} {b : Nat} {V : mI} (w : BkP I b V) : ∀ i, i < 20 → bz (I (b + 13) i) := w.2.2.2.2.2.2.2.2.2.1
theorem BkP.waz {I : mI} {b : Nat} {V : mI} (w : BkP I b V) : ∀ i, i < 20 → bz (I (b + 15) i) := w.2.2.2.2.2.2.2.2.2.2
def BkO (I : mI) (b : Nat) (V : mI) : Prop :=
  (∀ i, i < cP V → I (b + 12) i = opA V i) ∧
  (True)
theorem BkO.op {I : mI} {b : Nat} {V : mI} (w : BkO I b V) : ∀ i, i < cP V → I (b + 12) i = opA V i := w.1
theorem BkO.t {I : mI} {b : Nat} {V : mI} (w : BkO I b V) : True := w.2
def BkN (I : mI) (b : Nat) (V : mI) : Prop :=
  (I (b + 16) 0 = V 104 0) ∧
  (∀ k, k < 60 → I (b + 17) k = V 105 (4 * k)) ∧
  (∀ k, k < 60 → I (b + 18) k = V 105 (4 * k + 1)) ∧
  (∀ k, k < 60 → I (b + 19) k = V 105 (4 * k + 2)) ∧
  (∀ k, k < 60 → I (b + 20) k = V 105 (4 * k + 3)) ∧
  (∀ a c, a < 5 → c < 5 → a ≠ c → I (b + 21) (5 * a + c) = V 89 (5 * a + c)) ∧
  (∀ a, a < 5 → I (b + 21) (5 * a + a) = 0) ∧
  (∀ a v, a < 5 → v < 5 → I (b + 22) (5 * a + v) = wyA V a v)
theorem BkN.n {I : mI} {b : Nat} {V : mI} (w : BkN I b V) : I (b + 16) 0 = V 104 0 := w.1
theorem BkN.chi {I : mI} {b : Nat} {V : mI} (w : BkN I b V) : ∀ k, k < 60 → I (b + 17) k = V 105 (4 * k) := w.2.1
theorem BkN.par {I : mI} {b : Nat} {V : mI} (w : BkN I b V) : ∀ k, k < 60 → I (b + 18) k = V 105 (4 * k + 1) := w.2.2.1
theorem BkN.at {I : mI} {b : Nat} {V : mI} (w : BkN I b V) : ∀ k, k < 60 → I (b + 19) k = V 105 (4 * k + 2) := w.2.2.2.1
theorem BkN.in {I : mI} {b : Nat} {V : mI} (w : BkN I b V) : ∀ k, k < 60 → I (b + 20) k = V 105 (4 * k + 3) := w.2.2.2.2.1
theorem BkN.ro {I : mI} {b : Nat} {V : mI} (w : BkN I b V) : ∀ a c, a < 5 → c < 5 → a ≠ c → I (b + 21) (5 * a + c) = V 89 (5 * a + c) := w.2.2.2.2.2.1
theorem BkN.di {I : mI} {b : Nat} {V : mI} (w : BkN I b V) : ∀ a, a < 5 → I (b + 21) (5 * a + a) = 0 := w.2.2.2.2.2.2.1
theorem BkN.wy {I : mI} {b : Nat} {V : mI} (w : BkN I b V) : ∀ a v, a < 5 → v < 5 → I (b + 22) (5 * a + v) = wyA V a v := w.2.2.2.2.2.2.2
def BkM (I : mI) (b : Nat) (V : mI) : Prop :=
  (I (b + 23) 0 = V 106 0) ∧
  (∀ m, m < 30 → I (b + 24) m = V 107 m) ∧
  (∀ m, m < 30 → I (b + 25) m = V 108 m) ∧
  (∀ m, m < 30 → I (b + 26) m = V 109 m) ∧
  (∀ m, m < 30 → I (b + 27) m = V 110 m) ∧
  (∀ m, m < 30 → I (b + 28) m = V 111 m) ∧
  (∀ m, m < 30 → I (b + 29) m = V 112 m) ∧
  (∀ m, m < 30 → I (b + 30) m = V 113 m) ∧
  (∀ m, m < 30 → I (b + 31) m = V 114 m) ∧
  (∀ m j, m < cM V → V 109 m = 2 → j < 11 → j ≠ 6 → I (b + 32) (11 * m + j) = V 115 (11 * m + j))
theorem BkM.n {I : mI} {b : Nat} {V : mI} (w : BkM I b V) : I (b + 23) 0 = V 106 0 := w.1
theorem BkM.bri {I : mI} {b : Nat} {V : mI} (w : BkM I b V) : ∀ m, m < 30 → I (b + 24) m = V 107 m := w.2.1
theorem BkM.gro {I : mI} {b : Nat} {V : mI} (w : BkM I b V) : ∀ m, m < 30 → I (b + 25) m = V 108 m := w.2.2.1
theorem BkM.sta {I : mI} {b : Nat} {V : mI} (w : BkM I b V) : ∀ m, m < 30 → I (b + 26) m = V 109 m := w.2.2.2.1
theorem BkM.gif {I : mI} {b : Nat} {V : mI} (w : BkM I b V) : ∀ m, m < 30 → I (b + 27) m = V 110 m := w.2.2.2.2.1
theorem BkM.bac {I : mI} {b : Nat} {V : mI} (w : BkM I b V) : ∀ m, m < 30 → I (b + 28) m = V 111 m := w.2.2.2.2.2.1
theorem BkM.pai {I : mI} {b : Nat} {V : mI} (w : BkM I b V) : ∀ m, m < 30 → I (b + 29) m = V 112 m := w.2.2.2.2.2.2.1
theorem BkM.ask {I : mI} {b : Nat} {V : mI} (w : BkM I b V) : ∀ m, m < 30 → I (b + 30) m = V 113 m := w.2.2.2.2.2.2.2.1
theorem BkM.sin {I : mI} {b : Nat} {V : mI} (w : BkM I b V) : ∀ m, m < 30 → I (b + 31) m = V 114 m := w.2.2.2.2.2.2.2.2.1
theorem BkM.fac {I : mI} {b : Nat} {V : mI} (w : BkM I b V) : ∀ m j, m < cM V → V 109 m = 2 → j < 11 → j ≠ 6 → I (b + 32) (11 * m + j) = V 115 (11 * m + j) := w.2.2.2.2.2.2.2.2.2
def BkX (h : mS) (I : mI) (b : Nat) (V : mI) : Prop :=
  (∀ x, x < 7 → ∃ t, h.2.1 (b + 35) x = some t ∧ TR h I V t x) ∧
  (∀ m, m < cM V → V 109 m = 2 → ∃ t u, h.2.1 (b + 33) m = some t ∧ TR h I V t (7 + 2 * m) ∧ h.2.1 (b + 34) m = some u ∧ TR h I V u (8 + 2 * m)) ∧
  (∀ i t, i < 30 → h.2.1 (b + 33) i = some t → ∃ nl nt, LT h t nl nt) ∧
  (∀ i t, i < 30 → h.2.1 (b + 34) i = some t → ∃ nl nt, LT h t nl nt)
theorem BkX.tx {h : mS} {I : mI} {b : Nat} {V : mI} (w : BkX h I b V) : ∀ x, x < 7 → ∃ t, h.2.1 (b + 35) x = some t ∧ TR h I V t x := w.1
theorem BkX.wt {h : mS} {I : mI} {b : Nat} {V : mI} (w : BkX h I b V) : ∀ m, m < cM V → V 109 m = 2 → ∃ t u, h.2.1 (b + 33) m = some t ∧ TR h I V t (7 + 2 * m) ∧ h.2.1 (b + 34) m = some u ∧ TR h I V u (8 + 2 * m) := w.2.1
theorem BkX.a {h : mS} {I : mI} {b : Nat} {V : mI} (w : BkX h I b V) : ∀ i t, i < 30 → h.2.1 (b + 33) i = some t → ∃ nl nt, LT h t nl nt := w.2.2.1
theorem BkX.b {h : mS} {I : mI} {b : Nat} {V : mI} (w : BkX h I b V) : ∀ i t, i < 30 → h.2.1 (b + 34) i = some t → ∃ nl nt, LT h t nl nt := w.2.2.2
def Bk (h : mS) (I : mI) (b : Nat) (V : mI) : Prop :=
  (BkS I b V) ∧
  (BkH I b V) ∧
  (BkP I b V) ∧
  (BkO I b V) ∧
  (BkN I b V) ∧
  (BkM I b V) ∧
  (BkX h I b V)
theorem Bk.S {h : mS} {I : mI} {b : Nat} {V : mI} (w : Bk h I b V) : BkS I b V := w.1
theorem Bk.H {h : mS} {I : mI} {b : Nat} {V : mI} (w : Bk h I b V) : BkH I b V := w.2.1
theorem Bk.P {h : mS} {I : mI} {b : Nat} {V : mI} (w : Bk h I b V) : BkP I b V := w.2.2.1
theorem Bk.O {h : mS} {I : mI} {b : Nat} {V : mI} (w : Bk h I b V) : BkO I b V := w.2.2.2.1
theorem Bk.N {h : mS} {I : mI} {b : Nat} {V : mI} (w : Bk h I b V) : BkN I b V := w.2.2.2.2.1
theorem Bk.M {h : mS} {I : mI} {b : Nat} {V : mI} (w : Bk h I b V) : BkM I b V := w.2.2.2.2.2.1
theorem Bk.X {h : mS} {I : mI} {b : Nat} {V : mI} (w : Bk h I b V) : BkX h I b V := w.2.2.2.2.2.2
