/-! The forecasts' faces: both sides answer alike. -/
theorem no0 {x a b : Int} (h : ¬ (a ≤ x ∧ x < b)) : (a ≤ x ∧ x < b) = False := eq_false h
section AG
variable {V : Vn} {M : Md} {A : Ab} {K : Int}
theorem agForecast (hX : RepX V A) (hM : RepM M.1 A) (hW : WF K A) (x1 x2 : Int32) : ∃ r : Int32, fX2_partOfForecast V x1 x2 = some r ∧ fX9_forecast M x1 x2 = some r := by
  have hn := hW.n
  obtain ⟨x, rfl, hx1, hx2⟩ := iX x1
  obtain ⟨y, rfl, hy1, hy2⟩ := iX x2
  by_cases h1 : 0 ≤ x ∧ x < A.nB
  · by_cases h2 : 0 ≤ y ∧ y ≤ 2
    · obtain ⟨h1a, h1b⟩ := h1
      obtain ⟨h2a, h2b⟩ := h2
      by_cases h3 : A.B x 3 = 0
      · have hb := hW.b h1a h1b
        have hg := good_self (A := A) h1a h1b h3
        have hs := stt_b hW hg (later := 0) (by omega) (by omega)
        by_cases h4 : y = 0
        · refine ⟨iI (stt A x 0), ?_, ?_⟩
          · simp (disch := omega) only [nmD, bdS, b2S, lit32, iA, iS, iM, iN, iLt, iLe, iE, zlT, zlF, zleT, zleF, zeT, zeF, RdI, WrI, DvI, jmaxI, jminI, jabsI, bI0, Zb0, Zb1, ZbI, ↓reduceIte, not_true_eq_false, not_false_eq_true, ite_not, and_true, true_and, and_false, false_and, and_self, fX2_partOfForecast, xHasB hX hW, xIn, xBooked hX hW, xSt hX hW hg, xB hX hW]
          · simp (disch := omega) only [nmD, bdS, b2S, lit32, iA, iS, iM, iN, iLt, iLe, iE, zlT, zlF, zleT, zleF, zeT, zeF, RdI, WrI, DvI, jmaxI, jminI, jabsI, bI0, Zb0, Zb1, ZbI, ↓reduceIte, not_true_eq_false, not_false_eq_true, ite_not, and_true, true_and, and_false, false_and, and_self, fX9_forecast, fX9_forecast_j78, mIsB hM hW, mIn, mBo hM, mSt hM hW hg]
        · by_cases h5 : y = 1
          · refine ⟨iI (stt A x 0 - A.B x 1), ?_, ?_⟩
            · simp (disch := omega) only [nmD, bdS, b2S, lit32, iA, iS, iM, iN, iLt, iLe, iE, zlT, zlF, zleT, zleF, zeT, zeF, RdI, WrI, DvI, jmaxI, jminI, jabsI, bI0, Zb0, Zb1, ZbI, ↓reduceIte, not_true_eq_false, not_false_eq_true, ite_not, and_true, true_and, and_false, false_and, and_self, fX2_partOfForecast, xHasB hX hW, xIn, xBooked hX hW, xSt hX hW hg, xB hX hW]
            · simp (disch := omega) only [nmD, bdS, b2S, lit32, iA, iS, iM, iN, iLt, iLe, iE, zlT, zlF, zleT, zleF, zeT, zeF, RdI, WrI, DvI, jmaxI, jminI, jabsI, bI0, Zb0, Zb1, ZbI, ↓reduceIte, not_true_eq_false, not_false_eq_true, ite_not, and_true, true_and, and_false, false_and, and_self, fX9_forecast, fX9_forecast_j78, mIsB hM hW, mIn, mBo hM, mSt hM hW hg]
          · refine ⟨iI (shr A (A.B x 4) (stt A x 0 - A.B x 1)), ?_, ?_⟩
            · simp (disch := omega) only [nmD, bdS, b2S, lit32, iA, iS, iM, iN, iLt, iLe, iE, zlT, zlF, zleT, zleF, zeT, zeF, RdI, WrI, DvI, jmaxI, jminI, jabsI, bI0, Zb0, Zb1, ZbI, ↓reduceIte, not_true_eq_false, not_false_eq_true, ite_not, and_true, true_and, and_false, false_and, and_self, fX2_partOfForecast, xHasB hX hW, xIn, xBooked hX hW, xSt hX hW hg, xB hX hW, xShr hX hW]
            · simp (disch := omega) only [nmD, bdS, b2S, lit32, iA, iS, iM, iN, iLt, iLe, iE, zlT, zlF, zleT, zleF, zeT, zeF, RdI, WrI, DvI, jmaxI, jminI, jabsI, bI0, Zb0, Zb1, ZbI, ↓reduceIte, not_true_eq_false, not_false_eq_true, ite_not, and_true, true_and, and_false, false_and, and_self, fX9_forecast, fX9_forecast_j78, mIsB hM hW, mIn, mBo hM, mSt hM hW hg, mShr hM hW]
      · have hb := hW.b h1a h1b
        refine ⟨iI (-9), ?_, ?_⟩
        · simp (disch := omega) only [nmD, bdS, b2S, lit32, iA, iS, iM, iN, iLt, iLe, iE, zlT, zlF, zleT, zleF, zeT, zeF, RdI, WrI, DvI, jmaxI, jminI, jabsI, bI0, Zb0, Zb1, ZbI, ↓reduceIte, not_true_eq_false, not_false_eq_true, ite_not, and_true, true_and, and_false, false_and, and_self, fX2_partOfForecast, xHasB hX hW, xIn, xBooked hX hW]
        · simp (disch := omega) only [nmD, bdS, b2S, lit32, iA, iS, iM, iN, iLt, iLe, iE, zlT, zlF, zleT, zleF, zeT, zeF, RdI, WrI, DvI, jmaxI, jminI, jabsI, bI0, Zb0, Zb1, ZbI, ↓reduceIte, not_true_eq_false, not_false_eq_true, ite_not, and_true, true_and, and_false, false_and, and_self, fX9_forecast, mIsB hM hW, mIn, mBo hM]
    · obtain ⟨h1a, h1b⟩ := h1
      refine ⟨iI (-1), ?_, ?_⟩
      · simp (disch := omega) only [nmD, bdS, b2S, lit32, iA, iS, iM, iN, iLt, iLe, iE, zlT, zlF, zleT, zleF, zeT, zeF, RdI, WrI, DvI, jmaxI, jminI, jabsI, bI0, Zb0, Zb1, ZbI, ↓reduceIte, not_true_eq_false, not_false_eq_true, ite_not, and_true, true_and, and_false, false_and, and_self, fX2_partOfForecast, xHasB hX hW, xIn, h2]
      · simp (disch := omega) only [nmD, bdS, b2S, lit32, iA, iS, iM, iN, iLt, iLe, iE, zlT, zlF, zleT, zleF, zeT, zeF, RdI, WrI, DvI, jmaxI, jminI, jabsI, bI0, Zb0, Zb1, ZbI, ↓reduceIte, not_true_eq_false, not_false_eq_true, ite_not, and_true, true_and, and_false, false_and, and_self, fX9_forecast, mIsB hM hW, mIn, h2]
  · refine ⟨iI (-1), ?_, ?_⟩
    · simp (disch := omega) only [nmD, bdS, b2S, lit32, iA, iS, iM, iN, iLt, iLe, iE, zlT, zlF, zleT, zleF, zeT, zeF, RdI, WrI, DvI, jmaxI, jminI, jabsI, bI0, Zb0, Zb1, ZbI, ↓reduceIte, not_true_eq_false, not_false_eq_true, ite_not, and_true, true_and, and_false, false_and, and_self, fX2_partOfForecast, xHasB hX hW, h1]
    · simp (disch := omega) only [nmD, bdS, b2S, lit32, iA, iS, iM, iN, iLt, iLe, iE, zlT, zlF, zleT, zleF, zeT, zeF, RdI, WrI, DvI, jmaxI, jminI, jabsI, bI0, Zb0, Zb1, ZbI, ↓reduceIte, not_true_eq_false, not_false_eq_true, ite_not, and_true, true_and, and_false, false_and, and_self, fX9_forecast, mIsB hM hW, h1]
theorem mSlack_l (h : RepM M.1 A) (hW : WF K A) {room m : Int} (hr : 0 ≤ room ∧ room < A.nR) (hb : nx A room (-1) ≠ -9) (hm : m = A.S 3 + A.B (nx A room (-1)) 1 - A.R room 4) (kk : Int32 → Option Int32) : ∀ (k fu : Nat) (L : Int), 0 ≤ L → L + k = min m 999 → k < fu → fX9_slack_l35 M (iI room) kk fu (iI L) = kk (iI (min m 999)) := by
  intro k
  induction k with
  | zero =>
    intro fu L h0 h1 h2
    obtain ⟨fu, rfl⟩ : ∃ q, fu = q + 1 := ⟨fu - 1, by omega⟩
    have e : min m 999 = L := by omega
    rw [fX9_slack_l35_s, e]
    by_cases c : 999 ≤ L
    · simp (disch := omega) only [nmD, bdS, b2S, lit32, iA, iS, iM, iN, iLt, iLe, iE, zlT, zlF, zleT, zleF, zeT, zeF, RdI, WrI, DvI, jmaxI, jminI, jabsI, bI0, Zb0, Zb1, ZbI, ↓reduceIte, not_true_eq_false, not_false_eq_true, ite_not, and_true, true_and, and_false, false_and, and_self]
    · have hl := (mLate h hW (later := L + 1) hr (by omega) hb).1 (by omega)
      simp (disch := omega) only [nmD, bdS, b2S, lit32, iA, iS, iM, iN, iLt, iLe, iE, zlT, zlF, zleT, zleF, zeT, zeF, RdI, WrI, DvI, jmaxI, jminI, jabsI, bI0, Zb0, Zb1, ZbI, ↓reduceIte, not_true_eq_false, not_false_eq_true, ite_not, and_true, true_and, and_false, false_and, and_self, hl]
  | succ k ih =>
    intro fu L h0 h1 h2
    obtain ⟨fu, rfl⟩ : ∃ q, fu = q + 1 := ⟨fu - 1, by omega⟩
    have hl := (mLate h hW (later := L + 1) hr (by omega) hb).2 (by omega)
    rw [fX9_slack_l35_s, ← ih fu (L + 1) (by omega) (by omega) (by omega)]
    simp (disch := omega) only [nmD, bdS, b2S, lit32, iA, iS, iM, iN, iLt, iLe, iE, zlT, zlF, zleT, zleF, zeT, zeF, RdI, WrI, DvI, jmaxI, jminI, jabsI, bI0, Zb0, Zb1, ZbI, ↓reduceIte, not_true_eq_false, not_false_eq_true, ite_not, and_true, true_and, and_false, false_and, and_self, hl]
theorem agSlack (hX : RepX V A) (hM : RepM M.1 A) (hW : WF K A) (x1 : Int32) : ∃ r : Int32, fX2_delayLeft V x1 = some r ∧ fX9_slack M x1 = some r := by
  have hn := hW.n
  have hs := hW.s
  obtain ⟨x, rfl, hx1, hx2⟩ := iX x1
  by_cases h1 : 0 ≤ x ∧ x < A.nR
  · obtain ⟨h1a, h1b⟩ := h1
    have hr := hW.r h1a h1b
    by_cases h2 : nx A x (-1) = -9
    · refine ⟨iI (-9), ?_, ?_⟩
      · simp (disch := omega) only [nmD, bdS, b2S, lit32, iA, iS, iM, iN, iLt, iLe, iE, zlT, zlF, zleT, zleF, zeT, zeF, RdI, WrI, DvI, jmaxI, jminI, jabsI, bI0, Zb0, Zb1, ZbI, ↓reduceIte, not_true_eq_false, not_false_eq_true, ite_not, and_true, true_and, and_false, false_and, and_self, fX2_delayLeft, xHasR hX hW, xNx hX hW, h2]
      · simp (disch := omega) only [nmD, bdS, b2S, lit32, iA, iS, iM, iN, iLt, iLe, iE, zlT, zlF, zleT, zleF, zeT, zeF, RdI, WrI, DvI, jmaxI, jminI, jabsI, bI0, Zb0, Zb1, ZbI, ↓reduceIte, not_true_eq_false, not_false_eq_true, ite_not, and_true, true_and, and_false, false_and, and_self, fX9_slack, mIsR hM hW, mNx hM hW, h2]
    · have hf : 0 ≤ nx A x (-1) ∧ nx A x (-1) < A.nB := by
        rcases nxU hW x (-1) with ⟨q, -⟩ | ⟨q1, q2, -, -⟩
        · exact absurd q h2
        · exact ⟨q1, q2⟩
      have hb := hW.b hf.1 hf.2
      by_cases h3 : A.S 3 + A.B (nx A x (-1)) 1 - A.R x 4 < 0
      · have hl := (mLate hM hW (later := 0) ⟨h1a, h1b⟩ (by omega) h2).1 (by omega)
        refine ⟨iI (-9), ?_, ?_⟩
        · simp (disch := omega) only [nmD, bdS, b2S, lit32, iA, iS, iM, iN, iLt, iLe, iE, zlT, zlF, zleT, zleF, zeT, zeF, RdI, WrI, DvI, jmaxI, jminI, jabsI, bI0, Zb0, Zb1, ZbI, ↓reduceIte, not_true_eq_false, not_false_eq_true, ite_not, and_true, true_and, and_false, false_and, and_self, fX2_delayLeft, fX2_delayLeft_j82, xHasR hX hW, xNx hX hW, xB hX hW, xset hX, xR hX hW]
        · simp (disch := omega) only [nmD, bdS, b2S, lit32, iA, iS, iM, iN, iLt, iLe, iE, zlT, zlF, zleT, zleF, zeT, zeF, RdI, WrI, DvI, jmaxI, jminI, jabsI, bI0, Zb0, Zb1, ZbI, ↓reduceIte, not_true_eq_false, not_false_eq_true, ite_not, and_true, true_and, and_false, false_and, and_self, fX9_slack, mIsR hM hW, mNx hM hW, hl]
      · have hl := (mLate hM hW (later := 0) ⟨h1a, h1b⟩ (by omega) h2).2 (by omega)
        have hk := mSlack_l hM hW (m := A.S 3 + A.B (nx A x (-1)) 1 - A.R x 4) ⟨h1a, h1b⟩ h2 rfl (fun y11 => some y11) (min (A.S 3 + A.B (nx A x (-1)) 1 - A.R x 4) 999).toNat FU 0 (by omega) (by omega) (by unfold FU; omega)
        refine ⟨iI (min (A.S 3 + A.B (nx A x (-1)) 1 - A.R x 4) 999), ?_, ?_⟩
        · rw [show A.S 3 + A.B (nx A x (-1)) 1 - A.R x 4 = A.B (nx A x (-1)) 1 + A.S 3 - A.R x 4 by omega]
          simp (disch := omega) only [nmD, bdS, b2S, lit32, iA, iS, iM, iN, iLt, iLe, iE, zlT, zlF, zleT, zleF, zeT, zeF, RdI, WrI, DvI, jmaxI, jminI, jabsI, bI0, Zb0, Zb1, ZbI, ↓reduceIte, not_true_eq_false, not_false_eq_true, ite_not, and_true, true_and, and_false, false_and, and_self, fX2_delayLeft, fX2_delayLeft_j82, xHasR hX hW, xNx hX hW, xB hX hW, xset hX, xR hX hW]
        · simp (disch := omega) only [nmD, bdS, b2S, lit32, iA, iS, iM, iN, iLt, iLe, iE, zlT, zlF, zleT, zleF, zeT, zeF, RdI, WrI, DvI, jmaxI, jminI, jabsI, bI0, Zb0, Zb1, ZbI, ↓reduceIte, not_true_eq_false, not_false_eq_true, ite_not, and_true, true_and, and_false, false_and, and_self, fX9_slack, mIsR hM hW, mNx hM hW, hl]
          exact hk
  · refine ⟨iI (-1), ?_, ?_⟩
    · simp (disch := omega) only [nmD, bdS, b2S, lit32, iA, iS, iM, iN, iLt, iLe, iE, zlT, zlF, zleT, zleF, zeT, zeF, RdI, WrI, DvI, jmaxI, jminI, jabsI, bI0, Zb0, Zb1, ZbI, ↓reduceIte, not_true_eq_false, not_false_eq_true, ite_not, and_true, true_and, and_false, false_and, and_self, fX2_delayLeft, xHasR hX hW, h1]
    · simp (disch := omega) only [nmD, bdS, b2S, lit32, iA, iS, iM, iN, iLt, iLe, iE, zlT, zlF, zleT, zleF, zeT, zeF, RdI, WrI, DvI, jmaxI, jminI, jabsI, bI0, Zb0, Zb1, ZbI, ↓reduceIte, not_true_eq_false, not_false_eq_true, ite_not, and_true, true_and, and_false, false_and, and_self, fX9_slack, mIsR hM hW, h1]
theorem mHints_l (h : RepM M.1 A) (hW : WF K A) {g X : Int} (hg : 0 ≤ g ∧ g ≤ 120) (hX : 0 ≤ X ∧ X ≤ 150) {m : Int} (hm0 : 0 ≤ m) (hm1 : m ≤ 20) (hlo : ∀ q : Int, 0 ≤ q → q < m → (q + 1) * A.S 0 ≤ X) (hhi : m < 20 → X < (m + 1) * A.S 0) (kk : Int32 → Option Int32) : ∀ (k fu : Nat) (q : Int), 0 ≤ q → q + k = m → k < fu → fX9_hintsFor_l63 M (iI g) (iI (g + X)) kk fu (iI q) = kk (iI m) := by
  have hs := hW.s
  have e4 : (4 : Int).toNat = 4 := rfl
  intro k
  induction k with
  | zero =>
    intro fu q h0 h1 h2
    obtain ⟨fu, rfl⟩ : ∃ q, fu = q + 1 := ⟨fu - 1, by omega⟩
    obtain rfl : q = m := by omega
    rw [fX9_hintsFor_l63_s]
    have hb := mulb (a := q + 1) (b := A.S 0) (X := 21) (Y := 10) (by omega) (by omega) (by omega) (by omega)
    by_cases c : 20 ≤ q
    · simp (disch := omega) only [nmD, bdS, b2S, lit32, iA, iS, iM, iN, iLt, iLe, iE, zlT, zlF, zleT, zleF, zeT, zeF, RdI, WrI, DvI, jmaxI, jminI, jabsI, bI0, Zb0, Zb1, ZbI, ↓reduceIte, not_true_eq_false, not_false_eq_true, ite_not, and_true, true_and, and_false, false_and, and_self]
    · have := hhi (by omega)
      simp (disch := omega) only [nmD, bdS, b2S, lit32, iA, iS, iM, iN, iLt, iLe, iE, zlT, zlF, zleT, zleF, zeT, zeF, RdI, WrI, DvI, jmaxI, jminI, jabsI, bI0, Zb0, Zb1, ZbI, ↓reduceIte, not_true_eq_false, not_false_eq_true, ite_not, and_true, true_and, and_false, false_and, and_self, e4, h.s0]
  | succ k ih =>
    intro fu q h0 h1 h2
    obtain ⟨fu, rfl⟩ : ∃ q, fu = q + 1 := ⟨fu - 1, by omega⟩
    have hb := mulb (a := q + 1) (b := A.S 0) (X := 21) (Y := 10) (by omega) (by omega) (by omega) (by omega)
    have hq := hlo q h0 (by omega)
    rw [fX9_hintsFor_l63_s, ← ih fu (q + 1) (by omega) (by omega) (by omega)]
    clear ih hlo hhi
    simp (disch := omega) only [nmD, bdS, b2S, lit32, iA, iS, iM, iN, iLt, iLe, iE, zlT, zlF, zleT, zleF, zeT, zeF, RdI, WrI, DvI, jmaxI, jminI, jabsI, bI0, Zb0, Zb1, ZbI, ↓reduceIte, not_true_eq_false, not_false_eq_true, ite_not, and_true, true_and, and_false, false_and, and_self, e4, h.s0]
theorem agHints (hX : RepX V A) (hM : RepM M.1 A) (hW : WF K A) (x1 x2 : Int32) : ∃ r : Int32, fX2_hintsLeft V x1 x2 = some r ∧ fX9_hintsFor M x1 x2 = some r := by
  have hn := hW.n
  have hs := hW.s
  have e5 : (5 : Int).toNat = 5 := rfl
  obtain ⟨x, rfl, hx1, hx2⟩ := iX x1
  obtain ⟨y, rfl, hy1, hy2⟩ := iX x2
  by_cases h1 : 0 ≤ x ∧ x < A.nB
  · obtain ⟨h1a, h1b⟩ := h1
    have hb := hW.b h1a h1b
    have hb0 := hb.1.1
    have hb1 := hb.1.2
    have hr := hW.r hb0 hb1
    by_cases h2 : 1 ≤ y ∧ y ≤ A.R (A.B x 0) 0
    · obtain ⟨h2a, h2b⟩ := h2
      by_cases h3 : A.B x 3 = 0
      · have key : ∀ m : Int, 0 ≤ m → m ≤ 20 → (∀ q : Int, 0 ≤ q → q < m → (q + 1) * A.S 0 ≤ A.R (A.B x 0) 0 + A.S 1 - y) → (m < 20 → A.R (A.B x 0) 0 + A.S 1 - y < (m + 1) * A.S 0) → fX9_hintsFor M (iI x) (iI y) = some (iI m) := by
          intro m m0 m1 m2 m3
          have hk := mHints_l hM hW (g := y) (X := A.R (A.B x 0) 0 + A.S 1 - y) (by omega) (by omega) m0 m1 m2 m3 (fun y17 => some y17) m.toNat FU 0 (by omega) (by omega) (by unfold FU; omega)
          clear m2 m3
          rw [show y + (A.R (A.B x 0) 0 + A.S 1 - y) = A.R (A.B x 0) 0 + A.S 1 by omega] at hk
          simp (disch := omega) only [nmD, bdS, b2S, lit32, iA, iS, iM, iN, iLt, iLe, iE, zlT, zlF, zleT, zleF, zeT, zeF, RdI, WrI, DvI, jmaxI, jminI, jabsI, bI0, Zb0, Zb1, ZbI, ↓reduceIte, not_true_eq_false, not_false_eq_true, ite_not, and_true, true_and, and_false, false_and, and_self, fX9_hintsFor, mIsB hM hW, mBo hM, mRo hM, mIn, e5, hM.s1]
          exact hk
        by_cases h4 : A.S 0 = 0
        · refine ⟨iI 20, ?_, key 20 (by omega) (by omega) (fun q _ _ => by rw [h4, Int.mul_zero]; omega) (fun q => by omega)⟩
          clear key
          simp (disch := omega) only [nmD, bdS, b2S, lit32, iA, iS, iM, iN, iLt, iLe, iE, zlT, zlF, zleT, zleF, zeT, zeF, RdI, WrI, DvI, jmaxI, jminI, jabsI, bI0, Zb0, Zb1, ZbI, ↓reduceIte, not_true_eq_false, not_false_eq_true, ite_not, and_true, true_and, and_false, false_and, and_self, fX2_hintsLeft, xB hX hW, xR hX hW, xHasB hX hW, xIn, xBooked hX hW, xset hX]
        · have h5 : 0 < A.S 0 := by omega
          have d0 : 0 ≤ (A.R (A.B x 0) 0 + A.S 1 - y) / A.S 0 := Int.ediv_nonneg (by omega) (by omega)
          have d1 : (A.R (A.B x 0) 0 + A.S 1 - y) / A.S 0 ≤ A.R (A.B x 0) 0 + A.S 1 - y := Int.ediv_le_self _ (by omega)
          refine ⟨iI (min 20 ((A.R (A.B x 0) 0 + A.S 1 - y) / A.S 0)), ?_, key _ (by omega) (by omega) (fun q q0 q1 => (Int.le_ediv_iff_mul_le h5).mp (by omega)) (fun q => ?_)⟩
          · clear key
            simp (disch := omega) only [nmD, bdS, b2S, lit32, iA, iS, iM, iN, iLt, iLe, iE, zlT, zlF, zleT, zleF, zeT, zeF, RdI, WrI, DvI, jmaxI, jminI, jabsI, bI0, Zb0, Zb1, ZbI, ↓reduceIte, not_true_eq_false, not_false_eq_true, ite_not, and_true, true_and, and_false, false_and, and_self, fX2_hintsLeft, xB hX hW, xR hX hW, xHasB hX hW, xIn, xBooked hX hW, xset hX]
          · have e : min 20 ((A.R (A.B x 0) 0 + A.S 1 - y) / A.S 0) = (A.R (A.B x 0) 0 + A.S 1 - y) / A.S 0 := by omega
            rw [e]
            by_cases hq : ((A.R (A.B x 0) 0 + A.S 1 - y) / A.S 0 + 1) * A.S 0 ≤ A.R (A.B x 0) 0 + A.S 1 - y
            · have := (Int.le_ediv_iff_mul_le h5).mpr hq
              omega
            · omega
      · refine ⟨iI (-2), ?_, ?_⟩
        · simp (disch := omega) only [nmD, bdS, b2S, lit32, iA, iS, iM, iN, iLt, iLe, iE, zlT, zlF, zleT, zleF, zeT, zeF, RdI, WrI, DvI, jmaxI, jminI, jabsI, bI0, Zb0, Zb1, ZbI, ↓reduceIte, not_true_eq_false, not_false_eq_true, ite_not, and_true, true_and, and_false, false_and, and_self, fX2_hintsLeft, xB hX hW, xR hX hW, xHasB hX hW, xIn, xBooked hX hW]
        · simp (disch := omega) only [nmD, bdS, b2S, lit32, iA, iS, iM, iN, iLt, iLe, iE, zlT, zlF, zleT, zleF, zeT, zeF, RdI, WrI, DvI, jmaxI, jminI, jabsI, bI0, Zb0, Zb1, ZbI, ↓reduceIte, not_true_eq_false, not_false_eq_true, ite_not, and_true, true_and, and_false, false_and, and_self, fX9_hintsFor, mIsB hM hW, mBo hM, mRo hM, mIn]
    · refine ⟨iI (-1), ?_, ?_⟩
      · simp (disch := omega) only [nmD, bdS, b2S, lit32, iA, iS, iM, iN, iLt, iLe, iE, zlT, zlF, zleT, zleF, zeT, zeF, RdI, WrI, DvI, jmaxI, jminI, jabsI, bI0, Zb0, Zb1, ZbI, ↓reduceIte, not_true_eq_false, not_false_eq_true, ite_not, and_true, true_and, and_false, false_and, and_self, fX2_hintsLeft, xB hX hW, xR hX hW, xHasB hX hW, xIn, h2]
      · simp (disch := omega) only [nmD, bdS, b2S, lit32, iA, iS, iM, iN, iLt, iLe, iE, zlT, zlF, zleT, zleF, zeT, zeF, RdI, WrI, DvI, jmaxI, jminI, jabsI, bI0, Zb0, Zb1, ZbI, ↓reduceIte, not_true_eq_false, not_false_eq_true, ite_not, and_true, true_and, and_false, false_and, and_self, fX9_hintsFor, mIsB hM hW, mBo hM, mRo hM, mIn, h2]
  · refine ⟨iI (-1), ?_, ?_⟩
    · have e0 : fX6_cell 160 16 10 V.2.1 (iI x) 0 = some (iI 0) := cellO10 hX.uB hn.2.2.2.1 hn.2.2.1 (by omega) hx1 hx2
      have e1 : ∃ z : Int32, fX6_cell 44 4 11 V.1 (iI 0) 0 = some z := by
        by_cases c : 0 < A.nR
        · exact ⟨_, xR hX hW (r := 0) (c := 0) (by omega) c (by omega) (by omega)⟩
        · exact ⟨_, cellO11 hX.uR hn.2.1 hn.1 (by omega) (by omega) (by omega)⟩
      obtain ⟨z, e1⟩ := e1
      unfold fX2_hintsLeft
      rw [e0, bdS, e1, bdS]
      simp (disch := omega) only [nmD, bdS, b2S, lit32, iA, iS, iM, iN, iLt, iLe, iE, zlT, zlF, zleT, zleF, zeT, zeF, RdI, WrI, DvI, jmaxI, jminI, jabsI, bI0, Zb0, Zb1, ZbI, ↓reduceIte, not_true_eq_false, not_false_eq_true, ite_not, and_true, true_and, and_false, false_and, and_self, xHasB hX hW, h1]
    · simp (disch := omega) only [nmD, bdS, b2S, lit32, iA, iS, iM, iN, iLt, iLe, iE, zlT, zlF, zleT, zleF, zeT, zeF, RdI, WrI, DvI, jmaxI, jminI, jabsI, bI0, Zb0, Zb1, ZbI, ↓reduceIte, not_true_eq_false, not_false_eq_true, ite_not, and_true, true_and, and_false, false_and, and_self, fX9_hintsFor, mIsB hM hW, h1]
end AG
