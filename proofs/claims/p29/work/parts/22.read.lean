/-! What is read: the class's cells and the reference's row, as A has them. -/
section RX
variable {V : Vn} {A : Ab} {K : Int}
theorem RepX.uR (h : RepX V A) : V.1.1 = iI A.nR := h.1
theorem RepX.uB (h : RepX V A) : V.2.1.1 = iI A.nB := h.2.1
theorem RepX.uV (h : RepX V A) : V.2.2.1.1 = iI A.nV := h.2.2.1
theorem RepX.uS (h : RepX V A) : V.2.2.2.2.1.1 = iI 5 := h.2.2.2.1
theorem RepX.T (h : RepX V A) : V.2.2.2.2.2 = iI A.t := h.2.2.2.2.1
theorem xR (h : RepX V A) (hW : WF K A) {r c : Int} (h1 : 0 ≤ r) (h2 : r < A.nR) (h3 : 0 ≤ c) (h4 : c < 11) : fX6_cell 44 (iI 4) (iI 11) V.1 (iI r) (iI c) = some (iI (A.R r c)) := by
  have hw := hW.1
  rw [cellI11 h.uR (by omega) h1 h2 h3 h4, h.2.2.2.2.2.1 r c h1 h2 h3 h4]
theorem xB (h : RepX V A) (hW : WF K A) {i c : Int} (h1 : 0 ≤ i) (h2 : i < A.nB) (h3 : 0 ≤ c) (h4 : c < 6) : fX6_cell 160 (iI 16) (iI 10) V.2.1 (iI i) (iI c) = some (iI (A.B i c)) := by
  have hw := hW.1
  rw [cellI10 h.uB (by omega) h1 h2 h3 (by omega), h.2.2.2.2.2.2.1 i c h1 h2 h3 (by omega) (by omega), show clm c = c from if_pos h4]
theorem xB7 (h : RepX V A) (hW : WF K A) {i : Int} (h1 : 0 ≤ i) (h2 : i < A.nB) : fX6_cell 160 (iI 16) (iI 10) V.2.1 (iI i) (iI 7) = some (iI (A.B i 6)) := by
  have hw := hW.1
  rw [cellI10 h.uB (by omega) h1 h2 (by omega) (by omega), h.2.2.2.2.2.2.1 i 7 h1 h2 (by omega) (by omega) (by omega)]
  rfl
theorem xB8 (h : RepX V A) (hW : WF K A) {i : Int} (h1 : 0 ≤ i) (h2 : i < A.nB) : fX6_cell 160 (iI 16) (iI 10) V.2.1 (iI i) (iI 8) = some (iI (A.B i 7)) := by
  have hw := hW.1
  rw [cellI10 h.uB (by omega) h1 h2 (by omega) (by omega), h.2.2.2.2.2.2.1 i 8 h1 h2 (by omega) (by omega) (by omega)]
  rfl
theorem xB9 (h : RepX V A) (hW : WF K A) {i : Int} (h1 : 0 ≤ i) (h2 : i < A.nB) : fX6_cell 160 (iI 16) (iI 10) V.2.1 (iI i) (iI 9) = some (iI (A.B i 8)) := by
  have hw := hW.1
  rw [cellI10 h.uB (by omega) h1 h2 (by omega) (by omega), h.2.2.2.2.2.2.1 i 9 h1 h2 (by omega) (by omega) (by omega)]
  rfl
theorem xV (h : RepX V A) (hW : WF K A) {v c : Int} (h1 : 0 ≤ v) (h2 : v < A.nV) (h3 : 0 ≤ c) (h4 : c < 2) : fX6_cell 16 (iI 8) (iI 2) V.2.2.1 (iI v) (iI c) = some (iI (A.V v c)) := by
  have hw := hW.1
  rw [cellI2 h.uV (by omega) h1 h2 h3 h4, h.2.2.2.2.2.2.2.1 v c h1 h2 h3 h4]
theorem xS (h : RepX V A) {k : Int} (h1 : 0 ≤ k) (h2 : k < 5) : fX6_cell 5 (iI 5) (iI 1) V.2.2.2.2.1 (iI k) (iI 0) = some (iI (A.S k)) := by
  rw [cellI1 h.uS (by omega) h1 h2 (by omega) (by omega), h.2.2.2.2.2.2.2.2.1 k h1 h2]
theorem xset (h : RepX V A) {k : Int} (h1 : 0 ≤ k) (h2 : k < 5) : fX7_setting V (iI k) = some (iI (A.S k)) := by
  simp (disch := omega) only [nmD, bdS, b2S, lit32, iA, iS, iM, iN, iLt, iLe, iE, zlT, zlF, zleT, zleF, zeT, zeF, RdI, WrI, DvI, jmaxI, jminI, jabsI, bI0, Zb0, Zb1, ZbI, ↓reduceIte, not_true_eq_false, not_false_eq_true, ite_not, and_true, true_and, and_false, false_and, and_self, fX7_setting, xS h]
theorem xIn {x a b : Int} (h1 : -2147483648 ≤ x) (h2 : x < 2147483648) (h3 : -2147483648 ≤ a) (h4 : a < 2147483648) (h5 : -2147483648 ≤ b) (h6 : b < 2147483648) : fX8_inRange (iI x) (iI a) (iI b) = some (bI (a ≤ x ∧ x ≤ b)) := by
  by_cases c1 : x < a
  · rw [bIf (by omega)]; simp (disch := omega) only [nmD, bdS, b2S, lit32, iA, iS, iM, iN, iLt, iLe, iE, zlT, zlF, zleT, zleF, zeT, zeF, RdI, WrI, DvI, jmaxI, jminI, jabsI, bI0, Zb0, Zb1, ZbI, ↓reduceIte, not_true_eq_false, not_false_eq_true, ite_not, and_true, true_and, and_false, false_and, and_self, fX8_inRange, fX8_inRange_j14, fX8_inRange_j15]
  · by_cases c2 : b < x
    · rw [bIf (by omega)]; simp (disch := omega) only [nmD, bdS, b2S, lit32, iA, iS, iM, iN, iLt, iLe, iE, zlT, zlF, zleT, zleF, zeT, zeF, RdI, WrI, DvI, jmaxI, jminI, jabsI, bI0, Zb0, Zb1, ZbI, ↓reduceIte, not_true_eq_false, not_false_eq_true, ite_not, and_true, true_and, and_false, false_and, and_self, fX8_inRange, fX8_inRange_j14, fX8_inRange_j15]
    · rw [bIt (by omega)]; simp (disch := omega) only [nmD, bdS, b2S, lit32, iA, iS, iM, iN, iLt, iLe, iE, zlT, zlF, zleT, zleF, zeT, zeF, RdI, WrI, DvI, jmaxI, jminI, jabsI, bI0, Zb0, Zb1, ZbI, ↓reduceIte, not_true_eq_false, not_false_eq_true, ite_not, and_true, true_and, and_false, false_and, and_self, fX8_inRange, fX8_inRange_j14, fX8_inRange_j15]
theorem xHas {n : Nat} {cap w : Int32} {T : Tb} {u x : Int} (hT : T.1 = iI u) (hu : u ≤ 16) (hu0 : 0 ≤ u) (h1 : -2147483648 ≤ x) (h2 : x < 2147483648) : fX6_has n cap w T (iI x) = some (bI (0 ≤ x ∧ x < u)) := by
  by_cases c1 : x < 0
  · rw [bIf (by omega)]; simp (disch := omega) only [nmD, bdS, b2S, lit32, iA, iS, iM, iN, iLt, iLe, iE, zlT, zlF, zleT, zleF, zeT, zeF, RdI, WrI, DvI, jmaxI, jminI, jabsI, bI0, Zb0, Zb1, ZbI, ↓reduceIte, not_true_eq_false, not_false_eq_true, ite_not, and_true, true_and, and_false, false_and, and_self, fX6_has, fX6_has_j16, fX6_has_j17, hT]
  · by_cases c2 : u ≤ x
    · rw [bIf (by omega)]; simp (disch := omega) only [nmD, bdS, b2S, lit32, iA, iS, iM, iN, iLt, iLe, iE, zlT, zlF, zleT, zleF, zeT, zeF, RdI, WrI, DvI, jmaxI, jminI, jabsI, bI0, Zb0, Zb1, ZbI, ↓reduceIte, not_true_eq_false, not_false_eq_true, ite_not, and_true, true_and, and_false, false_and, and_self, fX6_has, fX6_has_j16, fX6_has_j17, hT]
    · rw [bIt (by omega)]; simp (disch := omega) only [nmD, bdS, b2S, lit32, iA, iS, iM, iN, iLt, iLe, iE, zlT, zlF, zleT, zleF, zeT, zeF, RdI, WrI, DvI, jmaxI, jminI, jabsI, bI0, Zb0, Zb1, ZbI, ↓reduceIte, not_true_eq_false, not_false_eq_true, ite_not, and_true, true_and, and_false, false_and, and_self, fX6_has, fX6_has_j16, fX6_has_j17, hT]
theorem xHasR (h : RepX V A) (hW : WF K A) {x : Int} (h1 : -2147483648 ≤ x) (h2 : x < 2147483648) : fX6_has 44 (iI 4) (iI 11) V.1 (iI x) = some (bI (0 ≤ x ∧ x < A.nR)) := by
  have hw := hW.1
  exact xHas h.uR (by omega) (by omega) h1 h2
theorem xHasB (h : RepX V A) (hW : WF K A) {x : Int} (h1 : -2147483648 ≤ x) (h2 : x < 2147483648) : fX6_has 160 (iI 16) (iI 10) V.2.1 (iI x) = some (bI (0 ≤ x ∧ x < A.nB)) := by
  have hw := hW.1
  exact xHas h.uB (by omega) (by omega) h1 h2
theorem xHasV (h : RepX V A) (hW : WF K A) {x : Int} (h1 : -2147483648 ≤ x) (h2 : x < 2147483648) : fX6_has 16 (iI 8) (iI 2) V.2.2.1 (iI x) = some (bI (0 ≤ x ∧ x < A.nV)) := by
  have hw := hW.1
  exact xHas h.uV (by omega) (by omega) h1 h2
theorem xSizeR (h : RepX V A) : fX6_size 44 (iI 4) (iI 11) V.1 = some (iI A.nR) := by rw [← h.uR]; rfl
theorem xSizeB (h : RepX V A) : fX6_size 160 (iI 16) (iI 10) V.2.1 = some (iI A.nB) := by rw [← h.uB]; rfl
theorem xSizeV (h : RepX V A) : fX6_size 16 (iI 8) (iI 2) V.2.2.1 = some (iI A.nV) := by rw [← h.uV]; rfl
theorem xFull {n : Nat} {w : Int32} {T : Tb} {cap u : Int} (hT : T.1 = iI u) (hu : u ≤ 16) (hu0 : 0 ≤ u) (h1 : 0 ≤ cap) (h2 : cap ≤ 16) : fX6_isFull n (iI cap) w T = some (bI (cap ≤ u)) := by
  by_cases c1 : cap ≤ u
  · rw [bIt c1]; simp (disch := omega) only [nmD, bdS, b2S, lit32, iA, iS, iM, iN, iLt, iLe, iE, zlT, zlF, zleT, zleF, zeT, zeF, RdI, WrI, DvI, jmaxI, jminI, jabsI, bI0, Zb0, Zb1, ZbI, ↓reduceIte, not_true_eq_false, not_false_eq_true, ite_not, and_true, true_and, and_false, false_and, and_self, fX6_isFull, fX6_isFull_j16, hT]
  · rw [bIf c1]; simp (disch := omega) only [nmD, bdS, b2S, lit32, iA, iS, iM, iN, iLt, iLe, iE, zlT, zlF, zleT, zleF, zeT, zeF, RdI, WrI, DvI, jmaxI, jminI, jabsI, bI0, Zb0, Zb1, ZbI, ↓reduceIte, not_true_eq_false, not_false_eq_true, ite_not, and_true, true_and, and_false, false_and, and_self, fX6_isFull, fX6_isFull_j16, hT]
/-- the bounds of a booking, of a room -/
theorem WF.b (hW : WF K A) {i : Int} (h1 : 0 ≤ i) (h2 : i < A.nB) : (0 ≤ A.B i 0 ∧ A.B i 0 < A.nR) ∧ (0 ≤ A.B i 1 ∧ A.B i 1 ≤ 720) ∧ (0 ≤ A.B i 2 ∧ A.B i 2 ≤ 8) ∧ (0 ≤ A.B i 3 ∧ A.B i 3 ≤ 3) ∧ (0 ≤ A.B i 4 ∧ A.B i 4 ≤ 1600) ∧ (0 ≤ A.B i 5 ∧ A.B i 5 ≤ 1600) := by
  have h := hW.2.2.2.1 i h1 h2
  omega
theorem WF.r (hW : WF K A) {r : Int} (h1 : 0 ≤ r) (h2 : r < A.nR) : (20 ≤ A.R r 0 ∧ A.R r 0 ≤ 120) ∧ (0 ≤ A.R r 1 ∧ A.R r 1 ≤ 60) ∧ (1 ≤ A.R r 2 ∧ A.R r 2 ≤ 200) ∧ (2 ≤ A.R r 3 ∧ A.R r 3 ≤ 8) ∧ (0 ≤ A.R r 4 ∧ A.R r 4 ≤ 160000000) := by
  have h := hW.2.2.1 r h1 h2
  have h4 := h.2.2.2.2 4 (by omega) (by omega)
  have hk := hW.1
  omega
theorem WF.n (hW : WF K A) : 0 ≤ A.nR ∧ A.nR ≤ 4 ∧ 0 ≤ A.nB ∧ A.nB ≤ 16 ∧ 0 ≤ A.nV ∧ A.nV ≤ 8 ∧ 0 ≤ K ∧ K ≤ 80000 := hW.1
theorem WF.s (hW : WF K A) : 0 ≤ A.S 0 ∧ A.S 0 ≤ 10 ∧ 0 ≤ A.S 1 ∧ A.S 1 ≤ 30 ∧ 0 ≤ A.S 2 ∧ A.S 2 ≤ 20 ∧ 0 ≤ A.S 3 ∧ A.S 3 ≤ 60 ∧ 0 ≤ A.S 4 ∧ A.S 4 ≤ 50 := hW.2.1
theorem xBooked (h : RepX V A) (hW : WF K A) {i : Int} (h1 : 0 ≤ i) (h2 : i < A.nB) : fX7_isBooked V (iI i) = some (bI (A.B i 3 = 0)) := by
  have hb := hW.b h1 h2
  have hn := hW.n
  by_cases c : A.B i 3 = 0
  · rw [bIt c]; simp (disch := omega) only [nmD, bdS, b2S, lit32, iA, iS, iM, iN, iLt, iLe, iE, zlT, zlF, zleT, zleF, zeT, zeF, RdI, WrI, DvI, jmaxI, jminI, jabsI, bI0, Zb0, Zb1, ZbI, ↓reduceIte, not_true_eq_false, not_false_eq_true, ite_not, and_true, true_and, and_false, false_and, and_self, fX7_isBooked, fX7_isBooked_j27, fX7_isBooked_j28, xHasB h hW, xB h hW, c, h1, h2, and_self, not_true_eq_false]
  · rw [bIf c]; simp (disch := omega) only [nmD, bdS, b2S, lit32, iA, iS, iM, iN, iLt, iLe, iE, zlT, zlF, zleT, zleF, zeT, zeF, RdI, WrI, DvI, jmaxI, jminI, jabsI, bI0, Zb0, Zb1, ZbI, ↓reduceIte, not_true_eq_false, not_false_eq_true, ite_not, and_true, true_and, and_false, false_and, and_self, fX7_isBooked, fX7_isBooked_j27, fX7_isBooked_j28, xHasB h hW, xB h hW, c, h1, h2, and_self, not_true_eq_false]
theorem xBookedO (h : RepX V A) (hW : WF K A) {i : Int} (h1 : i < 0 ∨ A.nB ≤ i) (h2 : -2147483648 ≤ i) (h3 : i < 2147483648) : fX7_isBooked V (iI i) = some (iI 0) := by
  have hn : ¬ (0 ≤ i ∧ i < A.nB) := by omega
  simp (disch := omega) only [nmD, bdS, b2S, lit32, iA, iS, iM, iN, iLt, iLe, iE, zlT, zlF, zleT, zleF, zeT, zeF, RdI, WrI, DvI, jmaxI, jminI, jabsI, bI0, Zb0, Zb1, ZbI, ↓reduceIte, not_true_eq_false, not_false_eq_true, ite_not, and_true, true_and, and_false, false_and, and_self, fX7_isBooked, fX7_isBooked_j27, fX7_isBooked_j28, xHasB h hW, hn]
theorem xPeriod (h : RepX V A) (hW : WF K A) {r : Int} (h1 : 0 ≤ r) (h2 : r < A.nR) : fX7_period V (iI r) = some (iI (A.R r 0 + A.R r 1)) := by
  simp (disch := omega) only [nmD, bdS, b2S, lit32, iA, iS, iM, iN, iLt, iLe, iE, zlT, zlF, zleT, zleF, zeT, zeF, RdI, WrI, DvI, jmaxI, jminI, jabsI, bI0, Zb0, Zb1, ZbI, ↓reduceIte, not_true_eq_false, not_false_eq_true, ite_not, and_true, true_and, and_false, false_and, and_self, fX7_period, xR h hW]
end RX
section RM
variable {A : Ab} {K : Int}
end RM
