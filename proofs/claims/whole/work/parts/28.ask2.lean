/-! The rooms by their use, pairs to be merged, free times. -/
theorem WF.m {A : Ab} {K : Int} (hW : WF K A) {r : Int} (h1 : 0 ≤ r) (h2 : r < A.nR) : 0 ≤ A.R r 8 ∧ A.R r 8 ≤ 160000000 := by
  have h := (hW.2.2.1 r h1 h2).2.2.2.2 8 (by omega) (by omega)
  have hk := hW.n
  omega
def ahS (A : Ab) (r : Int) : Int → Int → Int := fun k a => if A.R r 8 < A.R k 8 then a + 1 else if A.R k 8 = A.R r 8 then (if k < r then a + 1 else a) else a
section US
variable {V : Vn} {M : Md} {A : Ab} {K : Int}
theorem ahB {r : Int} : ∀ (k : Nat) (i a : Int), 0 ≤ a → 0 ≤ lp (ahS A r) k i a ∧ lp (ahS A r) k i a ≤ a + k := by
  intro k
  induction k with
  | zero => intro i a h; rw [lp_z]; omega
  | succ k ih =>
    intro i a h
    rw [lp_s]
    have h1 : a ≤ ahS A r i a ∧ ahS A r i a ≤ a + 1 := by
      unfold ahS
      repeat' split
      all_goals omega
    have := ih (i + 1) (ahS A r i a) (by omega)
    omega
theorem xAh_l (h : RepX V A) (hW : WF K A) {r : Int} (hr : 0 ≤ r ∧ r < A.nR) : ∀ (k fu : Nat) (i a : Int), 0 ≤ i → i + k = A.nR → k < fu → fX2_roomsAheadOf_l16 V (iI r) (iI (A.R r 8)) fu (iI a) (iI i) = some (iI (lp (ahS A r) k i a)) := by
  have hn := hW.n
  have hm := hW.m hr.1 hr.2
  intro k
  induction k with
  | zero =>
    intro fu i a h0 h1 h2
    obtain ⟨fu, rfl⟩ : ∃ q, fu = q + 1 := ⟨fu - 1, by omega⟩
    rw [fX2_roomsAheadOf_l16_s, lp_z]
    simp (disch := omega) only [nmD, bdS, b2S, lit32, iA, iS, iM, iN, iLt, iLe, iE, zlT, zlF, zleT, zleF, zeT, zeF, RdI, WrI, DvI, jmaxI, jminI, jabsI, bI0, Zb0, Zb1, ZbI, ↓reduceIte, not_true_eq_false, not_false_eq_true, ite_not, and_true, true_and, and_false, false_and, and_self, xSizeR h]
  | succ k ih =>
    intro fu i a h0 h1 h2
    obtain ⟨fu, rfl⟩ : ∃ q, fu = q + 1 := ⟨fu - 1, by omega⟩
    have hi := hW.m h0 (by omega)
    have ih1 := ih fu (i + 1) (a + 1) (by omega) (by omega) (by omega)
    have ih2 := ih fu (i + 1) a (by omega) (by omega) (by omega)
    clear ih
    rw [fX2_roomsAheadOf_l16_s, lp_s]
    by_cases c1 : A.R r 8 < A.R i 8
    · rw [show ahS A r i a = a + 1 from if_pos c1, ← ih1]
      simp (disch := omega) only [nmD, bdS, b2S, lit32, iA, iS, iM, iN, iLt, iLe, iE, zlT, zlF, zleT, zleF, zeT, zeF, RdI, WrI, DvI, jmaxI, jminI, jabsI, bI0, Zb0, Zb1, ZbI, ↓reduceIte, not_true_eq_false, not_false_eq_true, ite_not, and_true, true_and, and_false, false_and, and_self, xSizeR h, xR h hW, fX2_roomsAheadOf_j59, fX2_roomsAheadOf_j62]
    · by_cases c2 : A.R i 8 = A.R r 8
      · by_cases c3 : i < r
        · rw [show ahS A r i a = a + 1 by unfold ahS; rw [if_neg c1, if_pos c2, if_pos c3], ← ih1]
          simp (disch := omega) only [nmD, bdS, b2S, lit32, iA, iS, iM, iN, iLt, iLe, iE, zlT, zlF, zleT, zleF, zeT, zeF, RdI, WrI, DvI, jmaxI, jminI, jabsI, bI0, Zb0, Zb1, ZbI, ↓reduceIte, not_true_eq_false, not_false_eq_true, ite_not, and_true, true_and, and_false, false_and, and_self, xSizeR h, xR h hW, fX2_roomsAheadOf_j59, fX2_roomsAheadOf_j62]
        · rw [show ahS A r i a = a by unfold ahS; rw [if_neg c1, if_pos c2, if_neg c3], ← ih2]
          simp (disch := omega) only [nmD, bdS, b2S, lit32, iA, iS, iM, iN, iLt, iLe, iE, zlT, zlF, zleT, zleF, zeT, zeF, RdI, WrI, DvI, jmaxI, jminI, jabsI, bI0, Zb0, Zb1, ZbI, ↓reduceIte, not_true_eq_false, not_false_eq_true, ite_not, and_true, true_and, and_false, false_and, and_self, xSizeR h, xR h hW, fX2_roomsAheadOf_j59, fX2_roomsAheadOf_j62]
      · rw [show ahS A r i a = a by unfold ahS; rw [if_neg c1, if_neg c2], ← ih2]
        simp (disch := omega) only [nmD, bdS, b2S, lit32, iA, iS, iM, iN, iLt, iLe, iE, zlT, zlF, zleT, zleF, zeT, zeF, RdI, WrI, DvI, jmaxI, jminI, jabsI, bI0, Zb0, Zb1, ZbI, ↓reduceIte, not_true_eq_false, not_false_eq_true, ite_not, and_true, true_and, and_false, false_and, and_self, xSizeR h, xR h hW, fX2_roomsAheadOf_j59, fX2_roomsAheadOf_j62]
theorem mAh_l (h : RepM M.1 A) (hW : WF K A) {r : Int} (hr : 0 ≤ r ∧ r < A.nR) (x1 : Int32) (kk : Int32 → Option Int32) : ∀ (k fu : Nat) (i a : Int), 0 ≤ i → i + k = A.nR → k < fu → fX9_busiest_l23 M x1 (iI r) kk fu (iI a) (iI i) = kk (iI (lp (ahS A r) k i a)) := by
  have hn := hW.n
  have hm := hW.m hr.1 hr.2
  have e0 : (0 : Int).toNat = 0 := rfl
  intro k
  induction k with
  | zero =>
    intro fu i a h0 h1 h2
    obtain ⟨fu, rfl⟩ : ∃ q, fu = q + 1 := ⟨fu - 1, by omega⟩
    rw [fX9_busiest_l23_s, lp_z]
    simp (disch := omega) only [nmD, bdS, b2S, lit32, iA, iS, iM, iN, iLt, iLe, iE, zlT, zlF, zleT, zleF, zeT, zeF, RdI, WrI, DvI, jmaxI, jminI, jabsI, bI0, Zb0, Zb1, ZbI, ↓reduceIte, not_true_eq_false, not_false_eq_true, ite_not, and_true, true_and, and_false, false_and, and_self, e0, h.n0]
  | succ k ih =>
    intro fu i a h0 h1 h2
    obtain ⟨fu, rfl⟩ : ∃ q, fu = q + 1 := ⟨fu - 1, by omega⟩
    have hi := hW.m h0 (by omega)
    have ih1 := ih fu (i + 1) (a + 1) (by omega) (by omega) (by omega)
    have ih2 := ih fu (i + 1) a (by omega) (by omega) (by omega)
    clear ih
    rw [fX9_busiest_l23_s, lp_s]
    by_cases c1 : A.R r 8 < A.R i 8
    · rw [show ahS A r i a = a + 1 from if_pos c1, ← ih1]
      simp (disch := omega) only [nmD, bdS, b2S, lit32, iA, iS, iM, iN, iLt, iLe, iE, zlT, zlF, zleT, zleF, zeT, zeF, RdI, WrI, DvI, jmaxI, jminI, jabsI, bI0, Zb0, Zb1, ZbI, ↓reduceIte, not_true_eq_false, not_false_eq_true, ite_not, and_true, true_and, and_false, false_and, and_self, e0, h.n0, mRo h, fX9_busiest_j77, fX9_busiest_j81, fX9_busiest_j82]
    · by_cases c2 : A.R i 8 = A.R r 8
      · by_cases c3 : i < r
        · rw [show ahS A r i a = a + 1 by unfold ahS; rw [if_neg c1, if_pos c2, if_pos c3], ← ih1]
          simp (disch := omega) only [nmD, bdS, b2S, lit32, iA, iS, iM, iN, iLt, iLe, iE, zlT, zlF, zleT, zleF, zeT, zeF, RdI, WrI, DvI, jmaxI, jminI, jabsI, bI0, Zb0, Zb1, ZbI, ↓reduceIte, not_true_eq_false, not_false_eq_true, ite_not, and_true, true_and, and_false, false_and, and_self, e0, h.n0, mRo h, fX9_busiest_j77, fX9_busiest_j81, fX9_busiest_j82]
        · rw [show ahS A r i a = a by unfold ahS; rw [if_neg c1, if_pos c2, if_neg c3], ← ih2]
          simp (disch := omega) only [nmD, bdS, b2S, lit32, iA, iS, iM, iN, iLt, iLe, iE, zlT, zlF, zleT, zleF, zeT, zeF, RdI, WrI, DvI, jmaxI, jminI, jabsI, bI0, Zb0, Zb1, ZbI, ↓reduceIte, not_true_eq_false, not_false_eq_true, ite_not, and_true, true_and, and_false, false_and, and_self, e0, h.n0, mRo h, fX9_busiest_j77, fX9_busiest_j81, fX9_busiest_j82, Int.add_zero]
      · rw [show ahS A r i a = a by unfold ahS; rw [if_neg c1, if_neg c2], ← ih2]
        simp (disch := omega) only [nmD, bdS, b2S, lit32, iA, iS, iM, iN, iLt, iLe, iE, zlT, zlF, zleT, zleF, zeT, zeF, RdI, WrI, DvI, jmaxI, jminI, jabsI, bI0, Zb0, Zb1, ZbI, ↓reduceIte, not_true_eq_false, not_false_eq_true, ite_not, and_true, true_and, and_false, false_and, and_self, e0, h.n0, mRo h, fX9_busiest_j77, fX9_busiest_j81, fX9_busiest_j82, Int.add_zero]
theorem agBusy_l (hX : RepX V A) (hM : RepM M.1 A) (hW : WF K A) {p : Int} (hp : -2147483648 ≤ p ∧ p < 2147483648) : ∀ (k fu : Nat) (i : Int), 0 ≤ i → i + k = A.nR → k < fu → ∃ r : Int32, fX2_roomByUse_l8 V (iI p) fu (iI i) = some r ∧ fX9_busiest_l8 M (iI p) fu (iI i) = some r := by
  have hn := hW.n
  have e0 : (0 : Int).toNat = 0 := rfl
  intro k
  induction k with
  | zero =>
    intro fu i h0 h1 h2
    obtain ⟨fu, rfl⟩ : ∃ q, fu = q + 1 := ⟨fu - 1, by omega⟩
    rw [fX2_roomByUse_l8_s, fX9_busiest_l8_s]
    refine ⟨iI (-9), ?_, ?_⟩
    · simp (disch := omega) only [nmD, bdS, b2S, lit32, iA, iS, iM, iN, iLt, iLe, iE, zlT, zlF, zleT, zleF, zeT, zeF, RdI, WrI, DvI, jmaxI, jminI, jabsI, bI0, Zb0, Zb1, ZbI, ↓reduceIte, not_true_eq_false, not_false_eq_true, ite_not, and_true, true_and, and_false, false_and, and_self, xSizeR hX]
    · simp (disch := omega) only [nmD, bdS, b2S, lit32, iA, iS, iM, iN, iLt, iLe, iE, zlT, zlF, zleT, zleF, zeT, zeF, RdI, WrI, DvI, jmaxI, jminI, jabsI, bI0, Zb0, Zb1, ZbI, ↓reduceIte, not_true_eq_false, not_false_eq_true, ite_not, and_true, true_and, and_false, false_and, and_self, e0, hM.n0]
  | succ k ih =>
    intro fu i h0 h1 h2
    obtain ⟨fu, rfl⟩ : ∃ q, fu = q + 1 := ⟨fu - 1, by omega⟩
    obtain ⟨r, r1, r2⟩ := ih fu (i + 1) (by omega) (by omega) (by omega)
    clear ih
    have hb := ahB (A := A) (r := i) A.nR.toNat 0 0 (by omega)
    have hx : fX2_roomsAheadOf V (iI i) = some (iI (lp (ahS A i) A.nR.toNat 0 0)) := by
      have ex := xAh_l hX hW (r := i) (by omega) A.nR.toNat FU 0 0 (by omega) (by omega) (by unfold FU; omega)
      simp (disch := omega) only [nmD, bdS, b2S, lit32, iA, iS, iM, iN, iLt, iLe, iE, zlT, zlF, zleT, zleF, zeT, zeF, RdI, WrI, DvI, jmaxI, jminI, jabsI, bI0, Zb0, Zb1, ZbI, ↓reduceIte, not_true_eq_false, not_false_eq_true, ite_not, and_true, true_and, and_false, false_and, and_self, fX2_roomsAheadOf, xR hX hW]
      exact ex
    have hm := fun kk => mAh_l hM hW (r := i) (by omega) (iI p) kk A.nR.toNat FU 0 0 (by omega) (by omega) (by unfold FU; omega)
    rw [fX2_roomByUse_l8_s, fX9_busiest_l8_s]
    by_cases c : lp (ahS A i) A.nR.toNat 0 0 = p
    · refine ⟨iI i, ?_, ?_⟩
      · simp (disch := omega) only [nmD, bdS, b2S, lit32, iA, iS, iM, iN, iLt, iLe, iE, zlT, zlF, zleT, zleF, zeT, zeF, RdI, WrI, DvI, jmaxI, jminI, jabsI, bI0, Zb0, Zb1, ZbI, ↓reduceIte, not_true_eq_false, not_false_eq_true, ite_not, and_true, true_and, and_false, false_and, and_self, xSizeR hX, hx]
      · simp (disch := omega) only [nmD, bdS, b2S, lit32, iA, iS, iM, iN, iLt, iLe, iE, zlT, zlF, zleT, zleF, zeT, zeF, RdI, WrI, DvI, jmaxI, jminI, jabsI, bI0, Zb0, Zb1, ZbI, ↓reduceIte, not_true_eq_false, not_false_eq_true, ite_not, and_true, true_and, and_false, false_and, and_self, e0, hM.n0, hm]
    · refine ⟨r, ?_, ?_⟩
      · rw [← r1]
        simp (disch := omega) only [nmD, bdS, b2S, lit32, iA, iS, iM, iN, iLt, iLe, iE, zlT, zlF, zleT, zleF, zeT, zeF, RdI, WrI, DvI, jmaxI, jminI, jabsI, bI0, Zb0, Zb1, ZbI, ↓reduceIte, not_true_eq_false, not_false_eq_true, ite_not, and_true, true_and, and_false, false_and, and_self, xSizeR hX, hx]
      · rw [← r2]
        simp (disch := omega) only [nmD, bdS, b2S, lit32, iA, iS, iM, iN, iLt, iLe, iE, zlT, zlF, zleT, zleF, zeT, zeF, RdI, WrI, DvI, jmaxI, jminI, jabsI, bI0, Zb0, Zb1, ZbI, ↓reduceIte, not_true_eq_false, not_false_eq_true, ite_not, and_true, true_and, and_false, false_and, and_self, e0, hM.n0, hm]
theorem agBusy (hX : RepX V A) (hM : RepM M.1 A) (hW : WF K A) (x1 : Int32) : ∃ r : Int32, fX2_roomByUse V x1 = some r ∧ fX9_busiest M x1 = some r := by
  have hn := hW.n
  obtain ⟨p, rfl, hp1, hp2⟩ := iX x1
  have e0 : (0 : Int32) = iI 0 := rfl
  by_cases c : 0 ≤ p
  · obtain ⟨r, r1, r2⟩ := agBusy_l hX hM hW (p := p) ⟨hp1, hp2⟩ A.nR.toNat FU 0 (by omega) (by omega) (by unfold FU; omega)
    refine ⟨r, ?_, ?_⟩
    · simp (disch := omega) only [nmD, bdS, b2S, lit32, iA, iS, iM, iN, iLt, iLe, iE, zlT, zlF, zleT, zleF, zeT, zeF, RdI, WrI, DvI, jmaxI, jminI, jabsI, bI0, Zb0, Zb1, ZbI, ↓reduceIte, not_true_eq_false, not_false_eq_true, ite_not, and_true, true_and, and_false, false_and, and_self, fX2_roomByUse]
      exact r1
    · simp (disch := omega) only [nmD, bdS, b2S, lit32, iA, iS, iM, iN, iLt, iLe, iE, zlT, zlF, zleT, zleF, zeT, zeF, RdI, WrI, DvI, jmaxI, jminI, jabsI, bI0, Zb0, Zb1, ZbI, ↓reduceIte, not_true_eq_false, not_false_eq_true, ite_not, and_true, true_and, and_false, false_and, and_self, fX9_busiest]
      exact r2
  · refine ⟨iI (-1), ?_, ?_⟩
    · simp (disch := omega) only [nmD, bdS, b2S, lit32, iA, iS, iM, iN, iLt, iLe, iE, zlT, zlF, zleT, zleF, zeT, zeF, RdI, WrI, DvI, jmaxI, jminI, jabsI, bI0, Zb0, Zb1, ZbI, ↓reduceIte, not_true_eq_false, not_false_eq_true, ite_not, and_true, true_and, and_false, false_and, and_self, fX2_roomByUse]
    · simp (disch := omega) only [nmD, bdS, b2S, lit32, iA, iS, iM, iN, iLt, iLe, iE, zlT, zlF, zleT, zleF, zeT, zeF, RdI, WrI, DvI, jmaxI, jminI, jabsI, bI0, Zb0, Zb1, ZbI, ↓reduceIte, not_true_eq_false, not_false_eq_true, ite_not, and_true, true_and, and_false, false_and, and_self, fX9_busiest]
-- pairs
def Mg (A : Ab) (room i j : Int) : Prop := A.B i 3 = 0 ∧ A.B j 3 = 0 ∧ A.B i 0 = room ∧ A.B j 0 = room ∧ A.B i 2 + A.B j 2 ≤ A.R room 3
theorem xPair (h : RepX V A) (hW : WF K A) {room i j : Int} (hr : 0 ≤ room ∧ room < A.nR) (hi : 0 ≤ i ∧ i < A.nB) (hj : 0 ≤ j ∧ j < A.nB) : (Mg A room i j → fX2_playersTogether V (iI room) (iI i) (iI j) = some (iI (A.B i 2 + A.B j 2))) ∧ (¬ Mg A room i j → fX2_playersTogether V (iI room) (iI i) (iI j) = some (iI (-9))) := by
  have hn := hW.n
  have hbi := hW.b hi.1 hi.2
  have hbj := hW.b hj.1 hj.2
  have hR := hW.r hr.1 hr.2
  refine ⟨fun hm => ?_, fun hm => ?_⟩
  · obtain ⟨m1, m2, m3, m4, m5⟩ := hm
    simp (disch := omega) only [nmD, bdS, b2S, lit32, iA, iS, iM, iN, iLt, iLe, iE, zlT, zlF, zleT, zleF, zeT, zeF, RdI, WrI, DvI, jmaxI, jminI, jabsI, bI0, Zb0, Zb1, ZbI, ↓reduceIte, not_true_eq_false, not_false_eq_true, ite_not, and_true, true_and, and_false, false_and, and_self, fX2_playersTogether, fX2_playersTogether_j93, xB h hW, xBooked h hW, xR h hW]
  · by_cases c1 : A.B i 0 = room
    · by_cases c2 : A.B j 0 = room
      · by_cases c3 : A.B i 3 = 0
        · by_cases c4 : A.B j 3 = 0
          · have c5 : ¬ A.B i 2 + A.B j 2 ≤ A.R room 3 := fun q => hm ⟨c3, c4, c1, c2, q⟩
            simp (disch := omega) only [nmD, bdS, b2S, lit32, iA, iS, iM, iN, iLt, iLe, iE, zlT, zlF, zleT, zleF, zeT, zeF, RdI, WrI, DvI, jmaxI, jminI, jabsI, bI0, Zb0, Zb1, ZbI, ↓reduceIte, not_true_eq_false, not_false_eq_true, ite_not, and_true, true_and, and_false, false_and, and_self, fX2_playersTogether, fX2_playersTogether_j93, xB h hW, xBooked h hW, xR h hW]
          · simp (disch := omega) only [nmD, bdS, b2S, lit32, iA, iS, iM, iN, iLt, iLe, iE, zlT, zlF, zleT, zleF, zeT, zeF, RdI, WrI, DvI, jmaxI, jminI, jabsI, bI0, Zb0, Zb1, ZbI, ↓reduceIte, not_true_eq_false, not_false_eq_true, ite_not, and_true, true_and, and_false, false_and, and_self, fX2_playersTogether, fX2_playersTogether_j93, xB h hW, xBooked h hW, xR h hW]
        · simp (disch := omega) only [nmD, bdS, b2S, lit32, iA, iS, iM, iN, iLt, iLe, iE, zlT, zlF, zleT, zleF, zeT, zeF, RdI, WrI, DvI, jmaxI, jminI, jabsI, bI0, Zb0, Zb1, ZbI, ↓reduceIte, not_true_eq_false, not_false_eq_true, ite_not, and_true, true_and, and_false, false_and, and_self, fX2_playersTogether, fX2_playersTogether_j93, xB h hW, xBooked h hW, xR h hW]
      · simp (disch := omega) only [nmD, bdS, b2S, lit32, iA, iS, iM, iN, iLt, iLe, iE, zlT, zlF, zleT, zleF, zeT, zeF, RdI, WrI, DvI, jmaxI, jminI, jabsI, bI0, Zb0, Zb1, ZbI, ↓reduceIte, not_true_eq_false, not_false_eq_true, ite_not, and_true, true_and, and_false, false_and, and_self, fX2_playersTogether, fX2_playersTogether_j93, xB h hW, xBooked h hW, xR h hW]
    · simp (disch := omega) only [nmD, bdS, b2S, lit32, iA, iS, iM, iN, iLt, iLe, iE, zlT, zlF, zleT, zleF, zeT, zeF, RdI, WrI, DvI, jmaxI, jminI, jabsI, bI0, Zb0, Zb1, ZbI, ↓reduceIte, not_true_eq_false, not_false_eq_true, ite_not, and_true, true_and, and_false, false_and, and_self, fX2_playersTogether, fX2_playersTogether_j93, xB h hW, xBooked h hW, xR h hW]
theorem mPair (h : RepM M.1 A) (hW : WF K A) {room i j : Int} (hr : 0 ≤ room ∧ room < A.nR) (hi : 0 ≤ i ∧ i < A.nB) (hj : 0 ≤ j ∧ j < A.nB) : (Mg A room i j → fX9_areMergeable M (iI i) (iI j) (iI room) = some (iI 1)) ∧ (¬ Mg A room i j → fX9_areMergeable M (iI i) (iI j) (iI room) = some (iI 0)) := by
  have hn := hW.n
  have hbi := hW.b hi.1 hi.2
  have hbj := hW.b hj.1 hj.2
  have hR := hW.r hr.1 hr.2
  refine ⟨fun hm => ?_, fun hm => ?_⟩
  · obtain ⟨m1, m2, m3, m4, m5⟩ := hm
    simp (disch := omega) only [nmD, bdS, b2S, lit32, iA, iS, iM, iN, iLt, iLe, iE, zlT, zlF, zleT, zleF, zeT, zeF, RdI, WrI, DvI, jmaxI, jminI, jabsI, bI0, Zb0, Zb1, ZbI, ↓reduceIte, not_true_eq_false, not_false_eq_true, ite_not, and_true, true_and, and_false, false_and, and_self, fX9_areMergeable, fX9_areMergeable_j42, fX9_areMergeable_j43, fX9_areMergeable_j76, fX9_areMergeable_j77, mBo h, mRo h]
  · by_cases c1 : A.B i 0 = room
    · by_cases c2 : A.B j 0 = room
      · by_cases c3 : A.B i 3 = 0
        · by_cases c4 : A.B j 3 = 0
          · have c5 : ¬ A.B i 2 + A.B j 2 ≤ A.R room 3 := fun q => hm ⟨c3, c4, c1, c2, q⟩
            simp (disch := omega) only [nmD, bdS, b2S, lit32, iA, iS, iM, iN, iLt, iLe, iE, zlT, zlF, zleT, zleF, zeT, zeF, RdI, WrI, DvI, jmaxI, jminI, jabsI, bI0, Zb0, Zb1, ZbI, ↓reduceIte, not_true_eq_false, not_false_eq_true, ite_not, and_true, true_and, and_false, false_and, and_self, fX9_areMergeable, fX9_areMergeable_j42, fX9_areMergeable_j43, fX9_areMergeable_j76, fX9_areMergeable_j77, mBo h, mRo h]
          · simp (disch := omega) only [nmD, bdS, b2S, lit32, iA, iS, iM, iN, iLt, iLe, iE, zlT, zlF, zleT, zleF, zeT, zeF, RdI, WrI, DvI, jmaxI, jminI, jabsI, bI0, Zb0, Zb1, ZbI, ↓reduceIte, not_true_eq_false, not_false_eq_true, ite_not, and_true, true_and, and_false, false_and, and_self, fX9_areMergeable, fX9_areMergeable_j42, fX9_areMergeable_j43, fX9_areMergeable_j76, fX9_areMergeable_j77, mBo h, mRo h]
        · simp (disch := omega) only [nmD, bdS, b2S, lit32, iA, iS, iM, iN, iLt, iLe, iE, zlT, zlF, zleT, zleF, zeT, zeF, RdI, WrI, DvI, jmaxI, jminI, jabsI, bI0, Zb0, Zb1, ZbI, ↓reduceIte, not_true_eq_false, not_false_eq_true, ite_not, and_true, true_and, and_false, false_and, and_self, fX9_areMergeable, fX9_areMergeable_j42, fX9_areMergeable_j43, fX9_areMergeable_j76, fX9_areMergeable_j77, mBo h, mRo h]
      · by_cases c3 : A.B i 3 = 0
        · by_cases c4 : A.B j 3 = 0
          · simp (disch := omega) only [nmD, bdS, b2S, lit32, iA, iS, iM, iN, iLt, iLe, iE, zlT, zlF, zleT, zleF, zeT, zeF, RdI, WrI, DvI, jmaxI, jminI, jabsI, bI0, Zb0, Zb1, ZbI, ↓reduceIte, not_true_eq_false, not_false_eq_true, ite_not, and_true, true_and, and_false, false_and, and_self, fX9_areMergeable, fX9_areMergeable_j42, fX9_areMergeable_j43, fX9_areMergeable_j76, fX9_areMergeable_j77, mBo h, mRo h]
          · simp (disch := omega) only [nmD, bdS, b2S, lit32, iA, iS, iM, iN, iLt, iLe, iE, zlT, zlF, zleT, zleF, zeT, zeF, RdI, WrI, DvI, jmaxI, jminI, jabsI, bI0, Zb0, Zb1, ZbI, ↓reduceIte, not_true_eq_false, not_false_eq_true, ite_not, and_true, true_and, and_false, false_and, and_self, fX9_areMergeable, fX9_areMergeable_j42, fX9_areMergeable_j43, fX9_areMergeable_j76, fX9_areMergeable_j77, mBo h, mRo h]
        · simp (disch := omega) only [nmD, bdS, b2S, lit32, iA, iS, iM, iN, iLt, iLe, iE, zlT, zlF, zleT, zleF, zeT, zeF, RdI, WrI, DvI, jmaxI, jminI, jabsI, bI0, Zb0, Zb1, ZbI, ↓reduceIte, not_true_eq_false, not_false_eq_true, ite_not, and_true, true_and, and_false, false_and, and_self, fX9_areMergeable, fX9_areMergeable_j42, fX9_areMergeable_j43, fX9_areMergeable_j76, fX9_areMergeable_j77, mBo h, mRo h]
    · by_cases c3 : A.B i 3 = 0
      · by_cases c4 : A.B j 3 = 0
        · simp (disch := omega) only [nmD, bdS, b2S, lit32, iA, iS, iM, iN, iLt, iLe, iE, zlT, zlF, zleT, zleF, zeT, zeF, RdI, WrI, DvI, jmaxI, jminI, jabsI, bI0, Zb0, Zb1, ZbI, ↓reduceIte, not_true_eq_false, not_false_eq_true, ite_not, and_true, true_and, and_false, false_and, and_self, fX9_areMergeable, fX9_areMergeable_j42, fX9_areMergeable_j43, fX9_areMergeable_j76, fX9_areMergeable_j77, mBo h, mRo h]
        · simp (disch := omega) only [nmD, bdS, b2S, lit32, iA, iS, iM, iN, iLt, iLe, iE, zlT, zlF, zleT, zleF, zeT, zeF, RdI, WrI, DvI, jmaxI, jminI, jabsI, bI0, Zb0, Zb1, ZbI, ↓reduceIte, not_true_eq_false, not_false_eq_true, ite_not, and_true, true_and, and_false, false_and, and_self, fX9_areMergeable, fX9_areMergeable_j42, fX9_areMergeable_j43, fX9_areMergeable_j76, fX9_areMergeable_j77, mBo h, mRo h]
      · simp (disch := omega) only [nmD, bdS, b2S, lit32, iA, iS, iM, iN, iLt, iLe, iE, zlT, zlF, zleT, zleF, zeT, zeF, RdI, WrI, DvI, jmaxI, jminI, jabsI, bI0, Zb0, Zb1, ZbI, ↓reduceIte, not_true_eq_false, not_false_eq_true, ite_not, and_true, true_and, and_false, false_and, and_self, fX9_areMergeable, fX9_areMergeable_j42, fX9_areMergeable_j43, fX9_areMergeable_j76, fX9_areMergeable_j77, mBo h, mRo h]
theorem agPair_in (hX : RepX V A) (hM : RepM M.1 A) (hW : WF K A) {room i : Int} (w : Int32) (hr : 0 ≤ room ∧ room < A.nR) (hi : 0 ≤ i ∧ i < A.nB) (kx km : Int32 → Int32 → Int32 → Option Int32) (hk : ∀ a b c : Int, -9 ≤ c → c ≤ 16 → ∃ r : Int32, kx (iI a) (iI b) (iI c) = some r ∧ km (iI c) (iI a) (iI b) = some r) : ∀ (k fu : Nat) (a b c j : Int), 0 ≤ j → j + k = A.nB → k < fu → -9 ≤ c → c ≤ 16 → ∃ r : Int32, fX2_largestPair_l54 V (iI room) w (iI i) kx fu (iI a) (iI b) (iI c) (iI j) = some r ∧ fX9_mergeable_l50 M (iI room) w (iI i) km fu (iI c) (iI a) (iI b) (iI j) = some r := by
  have hn := hW.n
  have hbi := hW.b hi.1 hi.2
  have e1 : (1 : Int).toNat = 1 := rfl
  intro k
  induction k with
  | zero =>
    intro fu a b c j h0 h1 h2 h3 h4
    obtain ⟨fu, rfl⟩ : ∃ q, fu = q + 1 := ⟨fu - 1, by omega⟩
    obtain ⟨r, r1, r2⟩ := hk a b c h3 h4
    rw [fX2_largestPair_l54_s, fX9_mergeable_l50_s]
    refine ⟨r, ?_, ?_⟩
    · rw [← r1]; clear r1 r2 hk
      simp (disch := omega) only [nmD, bdS, b2S, lit32, iA, iS, iM, iN, iLt, iLe, iE, zlT, zlF, zleT, zleF, zeT, zeF, RdI, WrI, DvI, jmaxI, jminI, jabsI, bI0, Zb0, Zb1, ZbI, ↓reduceIte, not_true_eq_false, not_false_eq_true, ite_not, and_true, true_and, and_false, false_and, and_self, xSizeB hX]
    · rw [← r2]; clear r1 r2 hk
      simp (disch := omega) only [nmD, bdS, b2S, lit32, iA, iS, iM, iN, iLt, iLe, iE, zlT, zlF, zleT, zleF, zeT, zeF, RdI, WrI, DvI, jmaxI, jminI, jabsI, bI0, Zb0, Zb1, ZbI, ↓reduceIte, not_true_eq_false, not_false_eq_true, ite_not, and_true, true_and, and_false, false_and, and_self, e1, hM.n1]
  | succ k ih =>
    intro fu a b c j h0 h1 h2 h3 h4
    obtain ⟨fu, rfl⟩ : ∃ q, fu = q + 1 := ⟨fu - 1, by omega⟩
    have hbj := hW.b h0 (by omega)
    have hj : 0 ≤ j ∧ j < A.nB := by omega
    rw [fX2_largestPair_l54_s, fX9_mergeable_l50_s]
    by_cases hm : Mg A room i j
    · have hx := (xPair hX hW hr hi hj).1 hm
      have hq := (mPair hM hW hr hi hj).1 hm
      by_cases hc : A.B i 2 + A.B j 2 ≤ c
      · obtain ⟨r, r1, r2⟩ := ih fu a b c (j + 1) (by omega) (by omega) (by omega) h3 h4
        clear ih hk
        refine ⟨r, ?_, ?_⟩
        · rw [← r1]; clear r1 r2
          simp (disch := omega) only [nmD, bdS, b2S, lit32, iA, iS, iM, iN, iLt, iLe, iE, zlT, zlF, zleT, zleF, zeT, zeF, RdI, WrI, DvI, jmaxI, jminI, jabsI, bI0, Zb0, Zb1, ZbI, ↓reduceIte, not_true_eq_false, not_false_eq_true, ite_not, and_true, true_and, and_false, false_and, and_self, xSizeB hX, hx, fX2_largestPair_j95]
        · rw [← r2]; clear r1 r2
          simp (disch := omega) only [nmD, bdS, b2S, lit32, iA, iS, iM, iN, iLt, iLe, iE, zlT, zlF, zleT, zleF, zeT, zeF, RdI, WrI, DvI, jmaxI, jminI, jabsI, bI0, Zb0, Zb1, ZbI, ↓reduceIte, not_true_eq_false, not_false_eq_true, ite_not, and_true, true_and, and_false, false_and, and_self, e1, hM.n1, mBo hM, hq, fX9_mergeable_j107]
      · obtain ⟨r, r1, r2⟩ := ih fu i j (A.B i 2 + A.B j 2) (j + 1) (by omega) (by omega) (by omega) (by omega) (by omega)
        clear ih hk
        refine ⟨r, ?_, ?_⟩
        · rw [← r1]; clear r1 r2
          simp (disch := omega) only [nmD, bdS, b2S, lit32, iA, iS, iM, iN, iLt, iLe, iE, zlT, zlF, zleT, zleF, zeT, zeF, RdI, WrI, DvI, jmaxI, jminI, jabsI, bI0, Zb0, Zb1, ZbI, ↓reduceIte, not_true_eq_false, not_false_eq_true, ite_not, and_true, true_and, and_false, false_and, and_self, xSizeB hX, hx, fX2_largestPair_j95]
        · rw [← r2]; clear r1 r2
          simp (disch := omega) only [nmD, bdS, b2S, lit32, iA, iS, iM, iN, iLt, iLe, iE, zlT, zlF, zleT, zleF, zeT, zeF, RdI, WrI, DvI, jmaxI, jminI, jabsI, bI0, Zb0, Zb1, ZbI, ↓reduceIte, not_true_eq_false, not_false_eq_true, ite_not, and_true, true_and, and_false, false_and, and_self, e1, hM.n1, mBo hM, hq, fX9_mergeable_j107]
    · have hx := (xPair hX hW hr hi hj).2 hm
      have hq := (mPair hM hW hr hi hj).2 hm
      obtain ⟨r, r1, r2⟩ := ih fu a b c (j + 1) (by omega) (by omega) (by omega) h3 h4
      clear ih hk
      refine ⟨r, ?_, ?_⟩
      · rw [← r1]; clear r1 r2
        simp (disch := omega) only [nmD, bdS, b2S, lit32, iA, iS, iM, iN, iLt, iLe, iE, zlT, zlF, zleT, zleF, zeT, zeF, RdI, WrI, DvI, jmaxI, jminI, jabsI, bI0, Zb0, Zb1, ZbI, ↓reduceIte, not_true_eq_false, not_false_eq_true, ite_not, and_true, true_and, and_false, false_and, and_self, xSizeB hX, hx, fX2_largestPair_j95]
      · rw [← r2]; clear r1 r2
        simp (disch := omega) only [nmD, bdS, b2S, lit32, iA, iS, iM, iN, iLt, iLe, iE, zlT, zlF, zleT, zleF, zeT, zeF, RdI, WrI, DvI, jmaxI, jminI, jabsI, bI0, Zb0, Zb1, ZbI, ↓reduceIte, not_true_eq_false, not_false_eq_true, ite_not, and_true, true_and, and_false, false_and, and_self, e1, hM.n1, mBo hM, hq, fX9_mergeable_j107]
theorem agPair_out (hX : RepX V A) (hM : RepM M.1 A) (hW : WF K A) {room : Int} (w : Int32) (hr : 0 ≤ room ∧ room < A.nR) (kx km : Int32 → Int32 → Int32 → Option Int32) (hk : ∀ a b c : Int, -9 ≤ c → c ≤ 16 → ∃ r : Int32, kx (iI a) (iI b) (iI c) = some r ∧ km (iI c) (iI a) (iI b) = some r) : ∀ (k fu : Nat) (a b c i : Int), 0 ≤ i → i + k = A.nB → k < fu → -9 ≤ c → c ≤ 16 → ∃ r : Int32, fX2_largestPair_l36 V (iI room) w kx fu (iI a) (iI b) (iI c) (iI i) = some r ∧ fX9_mergeable_l33 M (iI room) w km fu (iI c) (iI a) (iI b) (iI i) = some r := by
  have hn := hW.n
  have e1 : (1 : Int).toNat = 1 := rfl
  intro k
  induction k with
  | zero =>
    intro fu a b c i h0 h1 h2 h3 h4
    obtain ⟨fu, rfl⟩ : ∃ q, fu = q + 1 := ⟨fu - 1, by omega⟩
    obtain ⟨r, r1, r2⟩ := hk a b c h3 h4
    rw [fX2_largestPair_l36_s, fX9_mergeable_l33_s]
    refine ⟨r, ?_, ?_⟩
    · rw [← r1]; clear r1 r2 hk
      simp (disch := omega) only [nmD, bdS, b2S, lit32, iA, iS, iM, iN, iLt, iLe, iE, zlT, zlF, zleT, zleF, zeT, zeF, RdI, WrI, DvI, jmaxI, jminI, jabsI, bI0, Zb0, Zb1, ZbI, ↓reduceIte, not_true_eq_false, not_false_eq_true, ite_not, and_true, true_and, and_false, false_and, and_self, xSizeB hX]
    · rw [← r2]; clear r1 r2 hk
      simp (disch := omega) only [nmD, bdS, b2S, lit32, iA, iS, iM, iN, iLt, iLe, iE, zlT, zlF, zleT, zleF, zeT, zeF, RdI, WrI, DvI, jmaxI, jminI, jabsI, bI0, Zb0, Zb1, ZbI, ↓reduceIte, not_true_eq_false, not_false_eq_true, ite_not, and_true, true_and, and_false, false_and, and_self, e1, hM.n1]
  | succ k ih =>
    intro fu a b c i h0 h1 h2 h3 h4
    obtain ⟨fu, rfl⟩ : ∃ q, fu = q + 1 := ⟨fu - 1, by omega⟩
    have e3 : (1 : Int32) = iI 1 := rfl
    obtain ⟨r, r1, r2⟩ := agPair_in hX hM hW (i := i) w hr (by omega) (fun y13 y14 y15 => nm (iI i + 1) fun v16 => fX2_largestPair_l36 V (iI room) w kx fu y13 y14 y15 v16) (fun y17 y18 y19 => nm (iI i + 1) fun v20 => fX9_mergeable_l33 M (iI room) w km fu y17 y18 y19 v20)
      (fun a b c c1 c2 => by
        simp only [nmD, e3, iA]
        exact ih fu a b c (i + 1) (by omega) (by omega) (by omega) c1 c2) k FU a b c (i + 1) (by omega) (by omega) (by unfold FU; omega) h3 h4
    clear ih hk
    rw [fX2_largestPair_l36_s, fX9_mergeable_l33_s]
    refine ⟨r, ?_, ?_⟩
    · rw [← r1]; clear r1 r2
      simp (disch := omega) only [nmD, bdS, b2S, lit32, iA, iS, iM, iN, iLt, iLe, iE, zlT, zlF, zleT, zleF, zeT, zeF, RdI, WrI, DvI, jmaxI, jminI, jabsI, bI0, Zb0, Zb1, ZbI, ↓reduceIte, not_true_eq_false, not_false_eq_true, ite_not, and_true, true_and, and_false, false_and, and_self, xSizeB hX]
    · rw [← r2]; clear r1 r2
      simp (disch := omega) only [nmD, bdS, b2S, lit32, iA, iS, iM, iN, iLt, iLe, iE, zlT, zlF, zleT, zleF, zeT, zeF, RdI, WrI, DvI, jmaxI, jminI, jabsI, bI0, Zb0, Zb1, ZbI, ↓reduceIte, not_true_eq_false, not_false_eq_true, ite_not, and_true, true_and, and_false, false_and, and_self, e1, hM.n1]
theorem agPair (hX : RepX V A) (hM : RepM M.1 A) (hW : WF K A) (x1 x2 : Int32) : ∃ r : Int32, fX2_largestPair V x1 x2 = some r ∧ fX9_mergeable M x1 x2 = some r := by
  have hn := hW.n
  obtain ⟨x, rfl, hx1, hx2⟩ := iX x1
  obtain ⟨y, rfl, hy1, hy2⟩ := iX x2
  by_cases h1 : 0 ≤ x ∧ x < A.nR
  · by_cases h2 : 0 ≤ y ∧ y ≤ 2
    · obtain ⟨r, r1, r2⟩ := agPair_out hX hM hW (room := x) (iI y) h1 (fun y17 y18 y19 => if iI y = 0 then (some y17) else (if iI y = 1 then (some y18) else (some y19))) (fun y21 y22 y23 => if iI y = 0 then (fX9_mergeable_j139 M y22) else (if iI y = 1 then (fX9_mergeable_j139 M y23) else (fX9_mergeable_j139 M y21)))
        (fun a b c _ _ => by
          by_cases q0 : iI y = 0
          · exact ⟨iI a, if_pos q0, if_pos q0⟩
          · by_cases q1 : iI y = 1
            · exact ⟨iI b, by simp only [if_neg q0, if_pos q1], by simp only [if_neg q0, if_pos q1]; rfl⟩
            · exact ⟨iI c, by simp only [if_neg q0, if_neg q1], by simp only [if_neg q0, if_neg q1]; rfl⟩) A.nB.toNat FU (-9) (-9) (-9) 0 (by omega) (by omega) (by unfold FU; omega) (by omega) (by omega)
      have e0 : (0 : Int32) = iI 0 := rfl
      have e2 : (2 : Int32) = iI 2 := rfl
      have e9 : (-9 : Int32) = iI (-9) := rfl
      refine ⟨r, ?_, ?_⟩
      · unfold fX2_largestPair
        rw [show fX6_has 44 4 11 V.1 (iI x) = _ from xHasR hX hW hx1 hx2, bdS, bIt h1, if_neg (by decide), e0, e2, xIn hy1 hy2 (by omega) (by omega) (by omega) (by omega), bdS, bIt h2, if_neg (by decide), e9]
        exact r1
      · unfold fX9_mergeable
        rw [mIsR hM hW hx1 hx2, bdS, bIt h1, if_neg (by decide), e0, e2, mIn hy1 hy2 (by omega) (by omega) (by omega) (by omega), bdS, bIt h2, if_neg (by decide), e9]
        exact r2
    · refine ⟨iI (-1), ?_, ?_⟩
      · obtain ⟨h1a, h1b⟩ := h1
        simp (disch := omega) only [nmD, bdS, b2S, lit32, iA, iS, iM, iN, iLt, iLe, iE, zlT, zlF, zleT, zleF, zeT, zeF, RdI, WrI, DvI, jmaxI, jminI, jabsI, bI0, Zb0, Zb1, ZbI, ↓reduceIte, not_true_eq_false, not_false_eq_true, ite_not, and_true, true_and, and_false, false_and, and_self, fX2_largestPair, xHasR hX hW, xIn, h2]
      · obtain ⟨h1a, h1b⟩ := h1
        simp (disch := omega) only [nmD, bdS, b2S, lit32, iA, iS, iM, iN, iLt, iLe, iE, zlT, zlF, zleT, zleF, zeT, zeF, RdI, WrI, DvI, jmaxI, jminI, jabsI, bI0, Zb0, Zb1, ZbI, ↓reduceIte, not_true_eq_false, not_false_eq_true, ite_not, and_true, true_and, and_false, false_and, and_self, fX9_mergeable, mIsR hM hW, mIn, h2]
  · refine ⟨iI (-1), ?_, ?_⟩
    · simp (disch := omega) only [nmD, bdS, b2S, lit32, iA, iS, iM, iN, iLt, iLe, iE, zlT, zlF, zleT, zleF, zeT, zeF, RdI, WrI, DvI, jmaxI, jminI, jabsI, bI0, Zb0, Zb1, ZbI, ↓reduceIte, not_true_eq_false, not_false_eq_true, ite_not, and_true, true_and, and_false, false_and, and_self, fX2_largestPair, xHasR hX hW, h1]
    · simp (disch := omega) only [nmD, bdS, b2S, lit32, iA, iS, iM, iN, iLt, iLe, iE, zlT, zlF, zleT, zleF, zeT, zeF, RdI, WrI, DvI, jmaxI, jminI, jabsI, bI0, Zb0, Zb1, ZbI, ↓reduceIte, not_true_eq_false, not_false_eq_true, ite_not, and_true, true_and, and_false, false_and, and_self, fX9_mergeable, mIsR hM hW, h1]
end US
