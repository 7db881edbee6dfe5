/-! The venue that both sides show: rooms, bookings, vouchers, settings, rows of payments, their vouchers and amounts, the numbers, the till. -/
theorem zlT {a b : Int} (h : a < b) : (a < b) = True := eq_true h
theorem zlF {a b : Int} (h : b ≤ a) : (a < b) = False := eq_false (by omega)
theorem zleT {a b : Int} (h : a ≤ b) : (a ≤ b) = True := eq_true h
theorem zleF {a b : Int} (h : b < a) : (a ≤ b) = False := eq_false (by omega)
theorem zeT {a b : Int} (h : a = b) : (a = b) = True := eq_true h
theorem zeF {a b : Int} (h : a < b ∨ b < a) : (a = b) = False := eq_false (by omega)
abbrev Ab : Type := (Int → Int → Int) × (Int → Int → Int) × (Int → Int → Int) × (Int → Int) × (Int → List Int) × (Int → Int) × (Int → Int) × Int × Int × Int × Int
def mkA (R B V : Int → Int → Int) (S : Int → Int) (rows : Int → List Int) (F U : Int → Int) (nR nB nV t : Int) : Ab := (R, B, V, S, rows, F, U, nR, nB, nV, t)
def Ab.R (A : Ab) : Int → Int → Int := A.1
def Ab.B (A : Ab) : Int → Int → Int := A.2.1
def Ab.V (A : Ab) : Int → Int → Int := A.2.2.1
def Ab.S (A : Ab) : Int → Int := A.2.2.2.1
def Ab.rows (A : Ab) : Int → List Int := A.2.2.2.2.1
def Ab.F (A : Ab) : Int → Int := A.2.2.2.2.2.1
def Ab.U (A : Ab) : Int → Int := A.2.2.2.2.2.2.1
def Ab.nR (A : Ab) : Int := A.2.2.2.2.2.2.2.1
def Ab.nB (A : Ab) : Int := A.2.2.2.2.2.2.2.2.1
def Ab.nV (A : Ab) : Int := A.2.2.2.2.2.2.2.2.2.1
def Ab.t (A : Ab) : Int := A.2.2.2.2.2.2.2.2.2.2
def clm (c : Int) : Int := if c < 6 then c else c - 1
def len (l : List Int) : Int := l.length
def at' (l : List Int) (k : Int) : Int := l.getD k.toNat 0
/-- the class's payments -/
def RepP (T : Tb) (A : Ab) : Prop := ∃ (nP : Int) (pb pq pl : Int → Int), T.1 = iI nP ∧ 0 ≤ nP ∧ nP ≤ A.nB ∧
  (∀ j : Int, 0 ≤ j → j < nP → T.2 (j * 4 + 0).toNat = iI (pb j) ∧ T.2 (j * 4 + 1).toNat = iI (A.F (pq j)) ∧ T.2 (j * 4 + 2).toNat = iI (A.U (pq j)) ∧ T.2 (j * 4 + 3).toNat = iI (pl j) ∧
    0 ≤ pb j ∧ pb j < A.nB ∧ 0 ≤ pl j ∧ pl j < len (A.rows (pb j)) ∧ at' (A.rows (pb j)) (pl j) = pq j) ∧
  (∀ i j : Int, 0 ≤ i → i < nP → 0 ≤ j → j < nP → pb i = pb j → pl i = pl j → i = j) ∧
  (∀ i k : Int, 0 ≤ i → i < A.nB → 0 ≤ k → k < len (A.rows i) → ∃ j : Int, 0 ≤ j ∧ j < nP ∧ pb j = i ∧ pl j = k)
/-- the class's venue shows A -/
def RepX (V : Vn) (A : Ab) : Prop :=
  V.1.1 = iI A.nR ∧ V.2.1.1 = iI A.nB ∧ V.2.2.1.1 = iI A.nV ∧ V.2.2.2.2.1.1 = iI 5 ∧ V.2.2.2.2.2 = iI A.t ∧
  (∀ r c : Int, 0 ≤ r → r < A.nR → 0 ≤ c → c < 11 → V.1.2 (r * 11 + c).toNat = iI (A.R r c)) ∧
  (∀ i c : Int, 0 ≤ i → i < A.nB → 0 ≤ c → c < 10 → c ≠ 6 → V.2.1.2 (i * 10 + c).toNat = iI (A.B i (clm c))) ∧
  (∀ v c : Int, 0 ≤ v → v < A.nV → 0 ≤ c → c < 2 → V.2.2.1.2 (v * 2 + c).toNat = iI (A.V v c)) ∧
  (∀ k : Int, 0 ≤ k → k < 5 → V.2.2.2.2.1.2 (k * 1 + 0).toNat = iI (A.S k)) ∧ RepP V.2.2.2.1 A
def rsum (A : Ab) (i : Int) : Int := ((A.rows i).map A.U).sum
/-- what holds of a venue, with K a bound of what grows -/
def WF (K : Int) (A : Ab) : Prop :=
  (0 ≤ A.nR ∧ A.nR ≤ 4 ∧ 0 ≤ A.nB ∧ A.nB ≤ 16 ∧ 0 ≤ A.nV ∧ A.nV ≤ 8 ∧ 0 ≤ K ∧ K ≤ 80000) ∧
  (0 ≤ A.S 0 ∧ A.S 0 ≤ 10 ∧ 0 ≤ A.S 1 ∧ A.S 1 ≤ 30 ∧ 0 ≤ A.S 2 ∧ A.S 2 ≤ 20 ∧ 0 ≤ A.S 3 ∧ A.S 3 ≤ 60 ∧ 0 ≤ A.S 4 ∧ A.S 4 ≤ 50) ∧
  (∀ r : Int, 0 ≤ r → r < A.nR → (20 ≤ A.R r 0 ∧ A.R r 0 ≤ 120) ∧ (0 ≤ A.R r 1 ∧ A.R r 1 ≤ 60) ∧ (1 ≤ A.R r 2 ∧ A.R r 2 ≤ 200) ∧ (2 ≤ A.R r 3 ∧ A.R r 3 ≤ 8) ∧ ∀ c : Int, 4 ≤ c → c < 11 → 0 ≤ A.R r c ∧ A.R r c ≤ 2000 * K) ∧
  (∀ i : Int, 0 ≤ i → i < A.nB → (0 ≤ A.B i 0 ∧ A.B i 0 < A.nR) ∧ (0 ≤ A.B i 1 ∧ A.B i 1 ≤ 720) ∧ (0 ≤ A.B i 2 ∧ A.B i 2 ≤ 8) ∧ (0 ≤ A.B i 3 ∧ A.B i 3 ≤ 3) ∧ (0 ≤ A.B i 4 ∧ A.B i 4 ≤ 200 * A.B i 2) ∧ (0 ≤ A.B i 5 ∧ A.B i 5 ≤ 1600) ∧ (A.B i 3 = 0 → A.B i 5 + rsum A i = A.B i 4)) ∧
  (∀ v : Int, 0 ≤ v → v < A.nV → 0 ≤ A.V v 1 ∧ A.V v 1 ≤ 500 + 2000 * K) ∧
  (∀ i : Int, 0 ≤ i → i < A.nB → (A.rows i).Nodup ∧ ∀ p ∈ A.rows i, (0 ≤ p ∧ p < A.nB) ∧ (0 ≤ A.F p ∧ A.F p < A.nV) ∧ (0 ≤ A.U p ∧ A.U p ≤ 1600) ∧ (A.B i 3 = 0 → 0 < A.U p)) ∧
  (∀ i j p : Int, 0 ≤ i → i < A.nB → 0 ≤ j → j < A.nB → p ∈ A.rows i → p ∈ A.rows j → i = j) ∧
  (∀ i j : Int, 0 ≤ i → i < A.nB → 0 ≤ j → j < A.nB → i ≠ j → A.B i 0 = A.B j 0 → A.B i 3 < 2 → A.B j 3 < 2 → A.R (A.B i 0) 0 + A.R (A.B i 0) 1 ≤ iabs (A.B i 1 - A.B j 1))
-- a cell of a table
theorem cellI11 {T : Tb} {u r c : Int} (hT : T.1 = iI u) (hu : u ≤ 4) (h1 : 0 ≤ r) (h2 : r < u) (h3 : 0 ≤ c) (h4 : c < 11) : fX6_cell 44 (iI 4) (iI 11) T (iI r) (iI c) = some (T.2 (r * 11 + c).toNat) := by
  simp (disch := omega) only [nmD, bdS, b2S, lit32, iA, iS, iM, iN, iLt, iLe, iE, zlT, zlF, zleT, zleF, zeT, zeF, RdI, WrI, DvI, jmaxI, jminI, jabsI, bI0, Zb0, Zb1, ZbI, ↓reduceIte, not_true_eq_false, not_false_eq_true, ite_not, and_true, true_and, and_false, false_and, and_self, fX6_cell, fX6_cell_j37, fX6_cell_j38, fX6_cell_j67, fX6_cell_j68, hT, nI_iI]
theorem cellO11 {T : Tb} {u r : Int} {c : Int32} (hT : T.1 = iI u) (hu : u ≤ 4) (hu0 : 0 ≤ u) (h1 : r < 0 ∨ u ≤ r) (h2 : -2147483648 ≤ r) (h3 : r < 2147483648) : fX6_cell 44 (iI 4) (iI 11) T (iI r) c = some (iI 0) := by
  simp only [nmD, fX6_cell, fX6_cell_j37, fX6_cell_j38, fX6_cell_j67, fX6_cell_j68, hT]
  rcases h1 with h1 | h1
  · simp (disch := omega) only [nmD, bdS, b2S, lit32, iA, iS, iM, iN, iLt, iLe, iE, zlT, zlF, zleT, zleF, zeT, zeF, RdI, WrI, DvI, jmaxI, jminI, jabsI, bI0, Zb0, Zb1, ZbI, ↓reduceIte, not_true_eq_false, not_false_eq_true, ite_not, and_true, true_and, and_false, false_and, and_self]
  · by_cases h0 : r < 0
    · simp (disch := omega) only [nmD, bdS, b2S, lit32, iA, iS, iM, iN, iLt, iLe, iE, zlT, zlF, zleT, zleF, zeT, zeF, RdI, WrI, DvI, jmaxI, jminI, jabsI, bI0, Zb0, Zb1, ZbI, ↓reduceIte, not_true_eq_false, not_false_eq_true, ite_not, and_true, true_and, and_false, false_and, and_self]
    · simp (disch := omega) only [nmD, bdS, b2S, lit32, iA, iS, iM, iN, iLt, iLe, iE, zlT, zlF, zleT, zleF, zeT, zeF, RdI, WrI, DvI, jmaxI, jminI, jabsI, bI0, Zb0, Zb1, ZbI, ↓reduceIte, not_true_eq_false, not_false_eq_true, ite_not, and_true, true_and, and_false, false_and, and_self]
theorem putI11 {T : Tb} {u r c : Int} {x : Int32} (hT : T.1 = iI u) (hu : u ≤ 4) (h1 : 0 ≤ r) (h2 : r < u) (h3 : 0 ≤ c) (h4 : c < 11) : fX6_put 44 (iI 4) (iI 11) T (iI r) (iI c) x = some (T.1, upd T.2 (r * 11 + c).toNat x) := by
  simp (disch := omega) only [nmD, bdS, b2S, lit32, iA, iS, iM, iN, iLt, iLe, iE, zlT, zlF, zleT, zleF, zeT, zeF, RdI, WrI, DvI, jmaxI, jminI, jabsI, bI0, Zb0, Zb1, ZbI, ↓reduceIte, not_true_eq_false, not_false_eq_true, ite_not, and_true, true_and, and_false, false_and, and_self, fX6_put, fX6_put_j38, fX6_put_j39, hT, nI_iI]
theorem cellI10 {T : Tb} {u r c : Int} (hT : T.1 = iI u) (hu : u ≤ 16) (h1 : 0 ≤ r) (h2 : r < u) (h3 : 0 ≤ c) (h4 : c < 10) : fX6_cell 160 (iI 16) (iI 10) T (iI r) (iI c) = some (T.2 (r * 10 + c).toNat) := by
  simp (disch := omega) only [nmD, bdS, b2S, lit32, iA, iS, iM, iN, iLt, iLe, iE, zlT, zlF, zleT, zleF, zeT, zeF, RdI, WrI, DvI, jmaxI, jminI, jabsI, bI0, Zb0, Zb1, ZbI, ↓reduceIte, not_true_eq_false, not_false_eq_true, ite_not, and_true, true_and, and_false, false_and, and_self, fX6_cell, fX6_cell_j37, fX6_cell_j38, fX6_cell_j67, fX6_cell_j68, hT, nI_iI]
theorem cellO10 {T : Tb} {u r : Int} {c : Int32} (hT : T.1 = iI u) (hu : u ≤ 16) (hu0 : 0 ≤ u) (h1 : r < 0 ∨ u ≤ r) (h2 : -2147483648 ≤ r) (h3 : r < 2147483648) : fX6_cell 160 (iI 16) (iI 10) T (iI r) c = some (iI 0) := by
  simp only [nmD, fX6_cell, fX6_cell_j37, fX6_cell_j38, fX6_cell_j67, fX6_cell_j68, hT]
  rcases h1 with h1 | h1
  · simp (disch := omega) only [nmD, bdS, b2S, lit32, iA, iS, iM, iN, iLt, iLe, iE, zlT, zlF, zleT, zleF, zeT, zeF, RdI, WrI, DvI, jmaxI, jminI, jabsI, bI0, Zb0, Zb1, ZbI, ↓reduceIte, not_true_eq_false, not_false_eq_true, ite_not, and_true, true_and, and_false, false_and, and_self]
  · by_cases h0 : r < 0
    · simp (disch := omega) only [nmD, bdS, b2S, lit32, iA, iS, iM, iN, iLt, iLe, iE, zlT, zlF, zleT, zleF, zeT, zeF, RdI, WrI, DvI, jmaxI, jminI, jabsI, bI0, Zb0, Zb1, ZbI, ↓reduceIte, not_true_eq_false, not_false_eq_true, ite_not, and_true, true_and, and_false, false_and, and_self]
    · simp (disch := omega) only [nmD, bdS, b2S, lit32, iA, iS, iM, iN, iLt, iLe, iE, zlT, zlF, zleT, zleF, zeT, zeF, RdI, WrI, DvI, jmaxI, jminI, jabsI, bI0, Zb0, Zb1, ZbI, ↓reduceIte, not_true_eq_false, not_false_eq_true, ite_not, and_true, true_and, and_false, false_and, and_self]
theorem putI10 {T : Tb} {u r c : Int} {x : Int32} (hT : T.1 = iI u) (hu : u ≤ 16) (h1 : 0 ≤ r) (h2 : r < u) (h3 : 0 ≤ c) (h4 : c < 10) : fX6_put 160 (iI 16) (iI 10) T (iI r) (iI c) x = some (T.1, upd T.2 (r * 10 + c).toNat x) := by
  simp (disch := omega) only [nmD, bdS, b2S, lit32, iA, iS, iM, iN, iLt, iLe, iE, zlT, zlF, zleT, zleF, zeT, zeF, RdI, WrI, DvI, jmaxI, jminI, jabsI, bI0, Zb0, Zb1, ZbI, ↓reduceIte, not_true_eq_false, not_false_eq_true, ite_not, and_true, true_and, and_false, false_and, and_self, fX6_put, fX6_put_j38, fX6_put_j39, hT, nI_iI]
theorem cellI2 {T : Tb} {u r c : Int} (hT : T.1 = iI u) (hu : u ≤ 8) (h1 : 0 ≤ r) (h2 : r < u) (h3 : 0 ≤ c) (h4 : c < 2) : fX6_cell 16 (iI 8) (iI 2) T (iI r) (iI c) = some (T.2 (r * 2 + c).toNat) := by
  simp (disch := omega) only [nmD, bdS, b2S, lit32, iA, iS, iM, iN, iLt, iLe, iE, zlT, zlF, zleT, zleF, zeT, zeF, RdI, WrI, DvI, jmaxI, jminI, jabsI, bI0, Zb0, Zb1, ZbI, ↓reduceIte, not_true_eq_false, not_false_eq_true, ite_not, and_true, true_and, and_false, false_and, and_self, fX6_cell, fX6_cell_j37, fX6_cell_j38, fX6_cell_j67, fX6_cell_j68, hT, nI_iI]
theorem cellO2 {T : Tb} {u r : Int} {c : Int32} (hT : T.1 = iI u) (hu : u ≤ 8) (hu0 : 0 ≤ u) (h1 : r < 0 ∨ u ≤ r) (h2 : -2147483648 ≤ r) (h3 : r < 2147483648) : fX6_cell 16 (iI 8) (iI 2) T (iI r) c = some (iI 0) := by
  simp only [nmD, fX6_cell, fX6_cell_j37, fX6_cell_j38, fX6_cell_j67, fX6_cell_j68, hT]
  rcases h1 with h1 | h1
  · simp (disch := omega) only [nmD, bdS, b2S, lit32, iA, iS, iM, iN, iLt, iLe, iE, zlT, zlF, zleT, zleF, zeT, zeF, RdI, WrI, DvI, jmaxI, jminI, jabsI, bI0, Zb0, Zb1, ZbI, ↓reduceIte, not_true_eq_false, not_false_eq_true, ite_not, and_true, true_and, and_false, false_and, and_self]
  · by_cases h0 : r < 0
    · simp (disch := omega) only [nmD, bdS, b2S, lit32, iA, iS, iM, iN, iLt, iLe, iE, zlT, zlF, zleT, zleF, zeT, zeF, RdI, WrI, DvI, jmaxI, jminI, jabsI, bI0, Zb0, Zb1, ZbI, ↓reduceIte, not_true_eq_false, not_false_eq_true, ite_not, and_true, true_and, and_false, false_and, and_self]
    · simp (disch := omega) only [nmD, bdS, b2S, lit32, iA, iS, iM, iN, iLt, iLe, iE, zlT, zlF, zleT, zleF, zeT, zeF, RdI, WrI, DvI, jmaxI, jminI, jabsI, bI0, Zb0, Zb1, ZbI, ↓reduceIte, not_true_eq_false, not_false_eq_true, ite_not, and_true, true_and, and_false, false_and, and_self]
theorem putI2 {T : Tb} {u r c : Int} {x : Int32} (hT : T.1 = iI u) (hu : u ≤ 8) (h1 : 0 ≤ r) (h2 : r < u) (h3 : 0 ≤ c) (h4 : c < 2) : fX6_put 16 (iI 8) (iI 2) T (iI r) (iI c) x = some (T.1, upd T.2 (r * 2 + c).toNat x) := by
  simp (disch := omega) only [nmD, bdS, b2S, lit32, iA, iS, iM, iN, iLt, iLe, iE, zlT, zlF, zleT, zleF, zeT, zeF, RdI, WrI, DvI, jmaxI, jminI, jabsI, bI0, Zb0, Zb1, ZbI, ↓reduceIte, not_true_eq_false, not_false_eq_true, ite_not, and_true, true_and, and_false, false_and, and_self, fX6_put, fX6_put_j38, fX6_put_j39, hT, nI_iI]
theorem cellI4 {T : Tb} {u r c : Int} (hT : T.1 = iI u) (hu : u ≤ 16) (h1 : 0 ≤ r) (h2 : r < u) (h3 : 0 ≤ c) (h4 : c < 4) : fX6_cell 64 (iI 16) (iI 4) T (iI r) (iI c) = some (T.2 (r * 4 + c).toNat) := by
  simp (disch := omega) only [nmD, bdS, b2S, lit32, iA, iS, iM, iN, iLt, iLe, iE, zlT, zlF, zleT, zleF, zeT, zeF, RdI, WrI, DvI, jmaxI, jminI, jabsI, bI0, Zb0, Zb1, ZbI, ↓reduceIte, not_true_eq_false, not_false_eq_true, ite_not, and_true, true_and, and_false, false_and, and_self, fX6_cell, fX6_cell_j37, fX6_cell_j38, fX6_cell_j67, fX6_cell_j68, hT, nI_iI]
theorem cellO4 {T : Tb} {u r : Int} {c : Int32} (hT : T.1 = iI u) (hu : u ≤ 16) (hu0 : 0 ≤ u) (h1 : r < 0 ∨ u ≤ r) (h2 : -2147483648 ≤ r) (h3 : r < 2147483648) : fX6_cell 64 (iI 16) (iI 4) T (iI r) c = some (iI 0) := by
  simp only [nmD, fX6_cell, fX6_cell_j37, fX6_cell_j38, fX6_cell_j67, fX6_cell_j68, hT]
  rcases h1 with h1 | h1
  · simp (disch := omega) only [nmD, bdS, b2S, lit32, iA, iS, iM, iN, iLt, iLe, iE, zlT, zlF, zleT, zleF, zeT, zeF, RdI, WrI, DvI, jmaxI, jminI, jabsI, bI0, Zb0, Zb1, ZbI, ↓reduceIte, not_true_eq_false, not_false_eq_true, ite_not, and_true, true_and, and_false, false_and, and_self]
  · by_cases h0 : r < 0
    · simp (disch := omega) only [nmD, bdS, b2S, lit32, iA, iS, iM, iN, iLt, iLe, iE, zlT, zlF, zleT, zleF, zeT, zeF, RdI, WrI, DvI, jmaxI, jminI, jabsI, bI0, Zb0, Zb1, ZbI, ↓reduceIte, not_true_eq_false, not_false_eq_true, ite_not, and_true, true_and, and_false, false_and, and_self]
    · simp (disch := omega) only [nmD, bdS, b2S, lit32, iA, iS, iM, iN, iLt, iLe, iE, zlT, zlF, zleT, zleF, zeT, zeF, RdI, WrI, DvI, jmaxI, jminI, jabsI, bI0, Zb0, Zb1, ZbI, ↓reduceIte, not_true_eq_false, not_false_eq_true, ite_not, and_true, true_and, and_false, false_and, and_self]
theorem putI4 {T : Tb} {u r c : Int} {x : Int32} (hT : T.1 = iI u) (hu : u ≤ 16) (h1 : 0 ≤ r) (h2 : r < u) (h3 : 0 ≤ c) (h4 : c < 4) : fX6_put 64 (iI 16) (iI 4) T (iI r) (iI c) x = some (T.1, upd T.2 (r * 4 + c).toNat x) := by
  simp (disch := omega) only [nmD, bdS, b2S, lit32, iA, iS, iM, iN, iLt, iLe, iE, zlT, zlF, zleT, zleF, zeT, zeF, RdI, WrI, DvI, jmaxI, jminI, jabsI, bI0, Zb0, Zb1, ZbI, ↓reduceIte, not_true_eq_false, not_false_eq_true, ite_not, and_true, true_and, and_false, false_and, and_self, fX6_put, fX6_put_j38, fX6_put_j39, hT, nI_iI]
theorem cellI1 {T : Tb} {u r c : Int} (hT : T.1 = iI u) (hu : u ≤ 5) (h1 : 0 ≤ r) (h2 : r < u) (h3 : 0 ≤ c) (h4 : c < 1) : fX6_cell 5 (iI 5) (iI 1) T (iI r) (iI c) = some (T.2 (r * 1 + c).toNat) := by
  simp (disch := omega) only [nmD, bdS, b2S, lit32, iA, iS, iM, iN, iLt, iLe, iE, zlT, zlF, zleT, zleF, zeT, zeF, RdI, WrI, DvI, jmaxI, jminI, jabsI, bI0, Zb0, Zb1, ZbI, ↓reduceIte, not_true_eq_false, not_false_eq_true, ite_not, and_true, true_and, and_false, false_and, and_self, fX6_cell, fX6_cell_j37, fX6_cell_j38, fX6_cell_j67, fX6_cell_j68, hT, nI_iI]
theorem cellO1 {T : Tb} {u r : Int} {c : Int32} (hT : T.1 = iI u) (hu : u ≤ 5) (hu0 : 0 ≤ u) (h1 : r < 0 ∨ u ≤ r) (h2 : -2147483648 ≤ r) (h3 : r < 2147483648) : fX6_cell 5 (iI 5) (iI 1) T (iI r) c = some (iI 0) := by
  simp only [nmD, fX6_cell, fX6_cell_j37, fX6_cell_j38, fX6_cell_j67, fX6_cell_j68, hT]
  rcases h1 with h1 | h1
  · simp (disch := omega) only [nmD, bdS, b2S, lit32, iA, iS, iM, iN, iLt, iLe, iE, zlT, zlF, zleT, zleF, zeT, zeF, RdI, WrI, DvI, jmaxI, jminI, jabsI, bI0, Zb0, Zb1, ZbI, ↓reduceIte, not_true_eq_false, not_false_eq_true, ite_not, and_true, true_and, and_false, false_and, and_self]
  · by_cases h0 : r < 0
    · simp (disch := omega) only [nmD, bdS, b2S, lit32, iA, iS, iM, iN, iLt, iLe, iE, zlT, zlF, zleT, zleF, zeT, zeF, RdI, WrI, DvI, jmaxI, jminI, jabsI, bI0, Zb0, Zb1, ZbI, ↓reduceIte, not_true_eq_false, not_false_eq_true, ite_not, and_true, true_and, and_false, false_and, and_self]
    · simp (disch := omega) only [nmD, bdS, b2S, lit32, iA, iS, iM, iN, iLt, iLe, iE, zlT, zlF, zleT, zleF, zeT, zeF, RdI, WrI, DvI, jmaxI, jminI, jabsI, bI0, Zb0, Zb1, ZbI, ↓reduceIte, not_true_eq_false, not_false_eq_true, ite_not, and_true, true_and, and_false, false_and, and_self]
theorem putI1 {T : Tb} {u r c : Int} {x : Int32} (hT : T.1 = iI u) (hu : u ≤ 5) (h1 : 0 ≤ r) (h2 : r < u) (h3 : 0 ≤ c) (h4 : c < 1) : fX6_put 5 (iI 5) (iI 1) T (iI r) (iI c) x = some (T.1, upd T.2 (r * 1 + c).toNat x) := by
  simp (disch := omega) only [nmD, bdS, b2S, lit32, iA, iS, iM, iN, iLt, iLe, iE, zlT, zlF, zleT, zleF, zeT, zeF, RdI, WrI, DvI, jmaxI, jminI, jabsI, bI0, Zb0, Zb1, ZbI, ↓reduceIte, not_true_eq_false, not_false_eq_true, ite_not, and_true, true_and, and_false, false_and, and_self, fX6_put, fX6_put_j38, fX6_put_j39, hT, nI_iI]
