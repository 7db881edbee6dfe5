/-! What is looked at: room, booking, voucher, money. -/
theorem xTot {n : Nat} {cap w : Int32} {T : Tb} {c u : Int} (hT : T.1 = iI u) (h1 : 0 ≤ u) (h2 : u ≤ 16) (g : Int → Int) (hc : ∀ r : Int, 0 ≤ r → r < u → fX6_cell n cap w T (iI r) (iI c) = some (iI (g r))) : fX6_total n cap w T (iI c) = some (iI (sm g u.toNat)) := by
  have key : ∀ (k fu : Nat) (j a : Int), 0 ≤ j → j + k = u → k < fu → fX6_total_l4 n cap w T (iI c) fu (iI a) (iI j) = some (iI (lp (fun j b => b + g j) k j a)) := by
    intro k
    induction k with
    | zero =>
      intro fu j a j0 j1 j2
      obtain ⟨fu, rfl⟩ : ∃ q, fu = q + 1 := ⟨fu - 1, by omega⟩
      rw [fX6_total_l4_s, lp_z]
      clear hc
      simp (disch := omega) only [nmD, bdS, b2S, lit32, iA, iS, iM, iN, iLt, iLe, iE, zlT, zlF, zleT, zleF, zeT, zeF, RdI, WrI, DvI, jmaxI, jminI, jabsI, bI0, Zb0, Zb1, ZbI, ↓reduceIte, not_true_eq_false, not_false_eq_true, ite_not, and_true, true_and, and_false, false_and, and_self, hT]
    | succ k ih =>
      intro fu j a j0 j1 j2
      obtain ⟨fu, rfl⟩ : ∃ q, fu = q + 1 := ⟨fu - 1, by omega⟩
      have hj := hc j j0 (by omega)
      rw [fX6_total_l4_s, lp_s]
      have := ih fu (j + 1) (a + g j) (by omega) (by omega) (by omega)
      rw [← this]
      clear ih this hc
      simp (disch := omega) only [nmD, bdS, b2S, lit32, iA, iS, iM, iN, iLt, iLe, iE, zlT, zlF, zleT, zleF, zeT, zeF, RdI, WrI, DvI, jmaxI, jminI, jabsI, bI0, Zb0, Zb1, ZbI, ↓reduceIte, not_true_eq_false, not_false_eq_true, ite_not, and_true, true_and, and_false, false_and, and_self, hT, hj]
  have e := key u.toNat FU 0 0 (by omega) (by omega) (by unfold FU; omega)
  rw [lp_sum0] at e
  have e0 : (0 : Int32) = iI 0 := rfl
  unfold fX6_total
  rw [e0, e]
noncomputable def hv (A : Ab) (v b : Int) : Int := @ite _ (hs A v b) (Classical.propDecidable _) 1 0
theorem hv_t {A : Ab} {v b : Int} (h : hs A v b) : hv A v b = 1 := by unfold hv; rw [if_pos h]
theorem hv_f {A : Ab} {v b : Int} (h : ¬ hs A v b) : hv A v b = 0 := by unfold hv; rw [if_neg h]
section LK
variable {M : Xm} {m : Md} {A : Ab} {K : Int}
theorem agRoom (hX : RepX M.1.1 A) (hM : RepM m.1 A) (hW : WF K A) (x1 x2 : Int32) : ∃ r : Int32, fX8_room M x1 x2 = some (r, M) ∧ fX9_room m x1 x2 = some r := by
  have hn := hW.n
  obtain ⟨x, rfl, hx1, hx2⟩ := iX x1
  obtain ⟨y, rfl, hy1, hy2⟩ := iX x2
  by_cases h1 : 0 ≤ x ∧ x < A.nR
  · obtain ⟨h1a, h1b⟩ := h1
    by_cases h2 : 0 ≤ y ∧ y ≤ 11
    · obtain ⟨h2a, h2b⟩ := h2
      by_cases h3 : y = 11
      · refine ⟨iI (nx A x (-1)), ?_, ?_⟩
        · simp (disch := omega) only [nmD, bdS, b2S, lit32, iA, iS, iM, iN, iLt, iLe, iE, zlT, zlF, zleT, zleF, zeT, zeF, RdI, WrI, DvI, jmaxI, jminI, jabsI, bI0, Zb0, Zb1, ZbI, ↓reduceIte, not_true_eq_false, not_false_eq_true, ite_not, and_true, true_and, and_false, false_and, and_self, fX8_room, fX8_room_j56, xHasR hX hW, xIn, xNx hX hW]
        · simp (disch := omega) only [nmD, bdS, b2S, lit32, iA, iS, iM, iN, iLt, iLe, iE, zlT, zlF, zleT, zleF, zeT, zeF, RdI, WrI, DvI, jmaxI, jminI, jabsI, bI0, Zb0, Zb1, ZbI, ↓reduceIte, not_true_eq_false, not_false_eq_true, ite_not, and_true, true_and, and_false, false_and, and_self, fX9_room, fX9_room_j41, mIsR hM hW, mIn, mNx hM hW]
      · refine ⟨iI (A.R x y), ?_, ?_⟩
        · simp (disch := omega) only [nmD, bdS, b2S, lit32, iA, iS, iM, iN, iLt, iLe, iE, zlT, zlF, zleT, zleF, zeT, zeF, RdI, WrI, DvI, jmaxI, jminI, jabsI, bI0, Zb0, Zb1, ZbI, ↓reduceIte, not_true_eq_false, not_false_eq_true, ite_not, and_true, true_and, and_false, false_and, and_self, fX8_room, fX8_room_j56, xHasR hX hW, xIn, xR hX hW]
        · simp (disch := omega) only [nmD, bdS, b2S, lit32, iA, iS, iM, iN, iLt, iLe, iE, zlT, zlF, zleT, zleF, zeT, zeF, RdI, WrI, DvI, jmaxI, jminI, jabsI, bI0, Zb0, Zb1, ZbI, ↓reduceIte, not_true_eq_false, not_false_eq_true, ite_not, and_true, true_and, and_false, false_and, and_self, fX9_room, fX9_room_j41, mIsR hM hW, mIn, mRo hM]
    · refine ⟨iI (-1), ?_, ?_⟩
      · simp (disch := omega) only [nmD, bdS, b2S, lit32, iA, iS, iM, iN, iLt, iLe, iE, zlT, zlF, zleT, zleF, zeT, zeF, RdI, WrI, DvI, jmaxI, jminI, jabsI, bI0, Zb0, Zb1, ZbI, ↓reduceIte, not_true_eq_false, not_false_eq_true, ite_not, and_true, true_and, and_false, false_and, and_self, fX8_room, fX8_room_j56, xHasR hX hW, xIn, h2]
      · simp (disch := omega) only [nmD, bdS, b2S, lit32, iA, iS, iM, iN, iLt, iLe, iE, zlT, zlF, zleT, zleF, zeT, zeF, RdI, WrI, DvI, jmaxI, jminI, jabsI, bI0, Zb0, Zb1, ZbI, ↓reduceIte, not_true_eq_false, not_false_eq_true, ite_not, and_true, true_and, and_false, false_and, and_self, fX9_room, mIsR hM hW, mIn, h2]
  · refine ⟨iI (-1), ?_, ?_⟩
    · simp (disch := omega) only [nmD, bdS, b2S, lit32, iA, iS, iM, iN, iLt, iLe, iE, zlT, zlF, zleT, zleF, zeT, zeF, RdI, WrI, DvI, jmaxI, jminI, jabsI, bI0, Zb0, Zb1, ZbI, ↓reduceIte, not_true_eq_false, not_false_eq_true, ite_not, and_true, true_and, and_false, false_and, and_self, fX8_room, fX8_room_j56, xHasR hX hW, h1]
    · simp (disch := omega) only [nmD, bdS, b2S, lit32, iA, iS, iM, iN, iLt, iLe, iE, zlT, zlF, zleT, zleF, zeT, zeF, RdI, WrI, DvI, jmaxI, jminI, jabsI, bI0, Zb0, Zb1, ZbI, ↓reduceIte, not_true_eq_false, not_false_eq_true, ite_not, and_true, true_and, and_false, false_and, and_self, fX9_room, mIsR hM hW, h1]
theorem agBooking (hX : RepX M.1.1 A) (hM : RepM m.1 A) (hW : WF K A) (x1 x2 : Int32) : ∃ r : Int32, fX8_booking M x1 x2 = some (r, M) ∧ fX9_booking m x1 x2 = some r := by
  have hn := hW.n
  obtain ⟨x, rfl, hx1, hx2⟩ := iX x1
  obtain ⟨y, rfl, hy1, hy2⟩ := iX x2
  by_cases h1 : 0 ≤ x ∧ x < A.nB
  · obtain ⟨h1a, h1b⟩ := h1
    by_cases h2 : 0 ≤ y ∧ y ≤ 10
    · obtain ⟨h2a, h2b⟩ := h2
      by_cases h3 : y = 6
      · refine ⟨iI (rsum A x), ?_, ?_⟩
        · simp (disch := omega) only [nmD, bdS, b2S, lit32, iA, iS, iM, iN, iLt, iLe, iE, zlT, zlF, zleT, zleF, zeT, zeF, RdI, WrI, DvI, jmaxI, jminI, jabsI, bI0, Zb0, Zb1, ZbI, ↓reduceIte, not_true_eq_false, not_false_eq_true, ite_not, and_true, true_and, and_false, false_and, and_self, fX8_booking, xHasB hX hW, xIn, xPaid hX hW]
        · simp (disch := omega) only [nmD, bdS, b2S, lit32, iA, iS, iM, iN, iLt, iLe, iE, zlT, zlF, zleT, zleF, zeT, zeF, RdI, WrI, DvI, jmaxI, jminI, jabsI, bI0, Zb0, Zb1, ZbI, ↓reduceIte, not_true_eq_false, not_false_eq_true, ite_not, and_true, true_and, and_false, false_and, and_self, fX9_booking, fX9_booking_j71, mIsB hM hW, mIn, mPaid hM hW]
      · by_cases h4 : y = 10
        · refine ⟨iI (cn A x), ?_, ?_⟩
          · simp (disch := omega) only [nmD, bdS, b2S, lit32, iA, iS, iM, iN, iLt, iLe, iE, zlT, zlF, zleT, zleF, zeT, zeF, RdI, WrI, DvI, jmaxI, jminI, jabsI, bI0, Zb0, Zb1, ZbI, ↓reduceIte, not_true_eq_false, not_false_eq_true, ite_not, and_true, true_and, and_false, false_and, and_self, fX8_booking, xHasB hX hW, xIn, xLeft hX hW]
          · simp (disch := omega) only [nmD, bdS, b2S, lit32, iA, iS, iM, iN, iLt, iLe, iE, zlT, zlF, zleT, zleF, zeT, zeF, RdI, WrI, DvI, jmaxI, jminI, jabsI, bI0, Zb0, Zb1, ZbI, ↓reduceIte, not_true_eq_false, not_false_eq_true, ite_not, and_true, true_and, and_false, false_and, and_self, fX9_booking, fX9_booking_j71, mIsB hM hW, mIn, mLeft hM hW]
        · by_cases h5 : y < 6
          · refine ⟨iI (A.B x y), ?_, ?_⟩
            · simp (disch := omega) only [nmD, bdS, b2S, lit32, iA, iS, iM, iN, iLt, iLe, iE, zlT, zlF, zleT, zleF, zeT, zeF, RdI, WrI, DvI, jmaxI, jminI, jabsI, bI0, Zb0, Zb1, ZbI, ↓reduceIte, not_true_eq_false, not_false_eq_true, ite_not, and_true, true_and, and_false, false_and, and_self, fX8_booking, xHasB hX hW, xIn, xB hX hW]
            · simp (disch := omega) only [nmD, bdS, b2S, lit32, iA, iS, iM, iN, iLt, iLe, iE, zlT, zlF, zleT, zleF, zeT, zeF, RdI, WrI, DvI, jmaxI, jminI, jabsI, bI0, Zb0, Zb1, ZbI, ↓reduceIte, not_true_eq_false, not_false_eq_true, ite_not, and_true, true_and, and_false, false_and, and_self, fX9_booking, fX9_booking_j71, mIsB hM hW, mIn, mBo hM]
          · refine ⟨iI (A.B x (y - 1)), ?_, ?_⟩
            · have hc : fX6_cell 160 (iI 16) (iI 10) M.1.1.2.1 (iI x) (iI y) = some (iI (A.B x (y - 1))) := by
                rcases (show y = 7 ∨ y = 8 ∨ y = 9 by omega) with rfl | rfl | rfl
                · exact xB7 hX hW h1a h1b
                · exact xB8 hX hW h1a h1b
                · exact xB9 hX hW h1a h1b
              simp (disch := omega) only [nmD, bdS, b2S, lit32, iA, iS, iM, iN, iLt, iLe, iE, zlT, zlF, zleT, zleF, zeT, zeF, RdI, WrI, DvI, jmaxI, jminI, jabsI, bI0, Zb0, Zb1, ZbI, ↓reduceIte, not_true_eq_false, not_false_eq_true, ite_not, and_true, true_and, and_false, false_and, and_self, fX8_booking, xHasB hX hW, xIn, hc]
            · simp (disch := omega) only [nmD, bdS, b2S, lit32, iA, iS, iM, iN, iLt, iLe, iE, zlT, zlF, zleT, zleF, zeT, zeF, RdI, WrI, DvI, jmaxI, jminI, jabsI, bI0, Zb0, Zb1, ZbI, ↓reduceIte, not_true_eq_false, not_false_eq_true, ite_not, and_true, true_and, and_false, false_and, and_self, fX9_booking, fX9_booking_j71, mIsB hM hW, mIn, mBo hM]
    · refine ⟨iI (-1), ?_, ?_⟩
      · simp (disch := omega) only [nmD, bdS, b2S, lit32, iA, iS, iM, iN, iLt, iLe, iE, zlT, zlF, zleT, zleF, zeT, zeF, RdI, WrI, DvI, jmaxI, jminI, jabsI, bI0, Zb0, Zb1, ZbI, ↓reduceIte, not_true_eq_false, not_false_eq_true, ite_not, and_true, true_and, and_false, false_and, and_self, fX8_booking, xHasB hX hW, xIn, h2]
      · simp (disch := omega) only [nmD, bdS, b2S, lit32, iA, iS, iM, iN, iLt, iLe, iE, zlT, zlF, zleT, zleF, zeT, zeF, RdI, WrI, DvI, jmaxI, jminI, jabsI, bI0, Zb0, Zb1, ZbI, ↓reduceIte, not_true_eq_false, not_false_eq_true, ite_not, and_true, true_and, and_false, false_and, and_self, fX9_booking, mIsB hM hW, mIn, h2]
  · refine ⟨iI (-1), ?_, ?_⟩
    · simp (disch := omega) only [nmD, bdS, b2S, lit32, iA, iS, iM, iN, iLt, iLe, iE, zlT, zlF, zleT, zleF, zeT, zeF, RdI, WrI, DvI, jmaxI, jminI, jabsI, bI0, Zb0, Zb1, ZbI, ↓reduceIte, not_true_eq_false, not_false_eq_true, ite_not, and_true, true_and, and_false, false_and, and_self, fX8_booking, xHasB hX hW, h1]
    · simp (disch := omega) only [nmD, bdS, b2S, lit32, iA, iS, iM, iN, iLt, iLe, iE, zlT, zlF, zleT, zleF, zeT, zeF, RdI, WrI, DvI, jmaxI, jminI, jabsI, bI0, Zb0, Zb1, ZbI, ↓reduceIte, not_true_eq_false, not_false_eq_true, ite_not, and_true, true_and, and_false, false_and, and_self, fX9_booking, mIsB hM hW, h1]
theorem xPwN {V : Vn} (h : RepX V A) (hW : WF K A) {v : Int} (h3 : 0 ≤ v) (h4 : v < A.nV) : fX7_bookingsPaidWith V (iI v) = some (iI (sm (hv A v) A.nB.toNat)) := by
  have hn := hW.n
  have key : ∀ (k fu : Nat) (j a : Int), 0 ≤ j → j + k = A.nB → k < fu → fX7_bookingsPaidWith_l4 V (iI v) fu (iI a) (iI j) = some (iI (lp (fun j b => b + hv A v j) k j a)) := by
    intro k
    induction k with
    | zero =>
      intro fu j a j0 j1 j2
      obtain ⟨fu, rfl⟩ : ∃ q, fu = q + 1 := ⟨fu - 1, by omega⟩
      rw [fX7_bookingsPaidWith_l4_s, lp_z]
      simp (disch := omega) only [nmD, bdS, b2S, lit32, iA, iS, iM, iN, iLt, iLe, iE, zlT, zlF, zleT, zleF, zeT, zeF, RdI, WrI, DvI, jmaxI, jminI, jabsI, bI0, Zb0, Zb1, ZbI, ↓reduceIte, not_true_eq_false, not_false_eq_true, ite_not, and_true, true_and, and_false, false_and, and_self, xSizeB h]
    | succ k ih =>
      intro fu j a j0 j1 j2
      obtain ⟨fu, rfl⟩ : ∃ q, fu = q + 1 := ⟨fu - 1, by omega⟩
      have hp := xPw h hW (i := j) j0 (by omega) h3 h4
      rw [fX7_bookingsPaidWith_l4_s, lp_s]
      by_cases c : hs A v j
      · have := ih fu (j + 1) (a + 1) (by omega) (by omega) (by omega)
        rw [hv_t c, ← this]
        have hp := hp.1 c
        clear ih this
        simp (disch := omega) only [nmD, bdS, b2S, lit32, iA, iS, iM, iN, iLt, iLe, iE, zlT, zlF, zleT, zleF, zeT, zeF, RdI, WrI, DvI, jmaxI, jminI, jabsI, bI0, Zb0, Zb1, ZbI, ↓reduceIte, not_true_eq_false, not_false_eq_true, ite_not, and_true, true_and, and_false, false_and, and_self, xSizeB h, hp, fX7_bookingsPaidWith_j27]
      · have := ih fu (j + 1) a (by omega) (by omega) (by omega)
        rw [hv_f c, Int.add_zero, ← this]
        have hp := hp.2 c
        clear ih this
        simp (disch := omega) only [nmD, bdS, b2S, lit32, iA, iS, iM, iN, iLt, iLe, iE, zlT, zlF, zleT, zleF, zeT, zeF, RdI, WrI, DvI, jmaxI, jminI, jabsI, bI0, Zb0, Zb1, ZbI, ↓reduceIte, not_true_eq_false, not_false_eq_true, ite_not, and_true, true_and, and_false, false_and, and_self, xSizeB h, hp, fX7_bookingsPaidWith_j27]
  have e := key A.nB.toNat FU 0 0 (by omega) (by omega) (by unfold FU; omega)
  rw [lp_sum0] at e
  have e0 : (0 : Int32) = iI 0 := rfl
  unfold fX7_bookingsPaidWith
  rw [e0, e]
theorem mPwN (h : RepM m.1 A) (hW : WF K A) {v : Int} (h3 : 0 ≤ v) (h4 : v < A.nV) (x2 : Int32) (kk : Int32 → Option Int32) : fX9_voucher_l24 m (iI v) x2 kk FU (iI 0) (iI 0) = kk (iI (sm (hv A v) A.nB.toNat)) := by
  have hn := hW.n
  have e1 : (1 : Int).toNat = 1 := rfl
  have key : ∀ (k fu : Nat) (j a : Int), 0 ≤ j → j + k = A.nB → k < fu → fX9_voucher_l24 m (iI v) x2 kk fu (iI a) (iI j) = kk (iI (lp (fun j b => b + hv A v j) k j a)) := by
    intro k
    induction k with
    | zero =>
      intro fu j a j0 j1 j2
      obtain ⟨fu, rfl⟩ : ∃ q, fu = q + 1 := ⟨fu - 1, by omega⟩
      rw [fX9_voucher_l24_s, lp_z]
      simp (disch := omega) only [nmD, bdS, b2S, lit32, iA, iS, iM, iN, iLt, iLe, iE, zlT, zlF, zleT, zleF, zeT, zeF, RdI, WrI, DvI, jmaxI, jminI, jabsI, bI0, Zb0, Zb1, ZbI, ↓reduceIte, not_true_eq_false, not_false_eq_true, ite_not, and_true, true_and, and_false, false_and, and_self, e1, h.n1]
    | succ k ih =>
      intro fu j a j0 j1 j2
      obtain ⟨fu, rfl⟩ : ∃ q, fu = q + 1 := ⟨fu - 1, by omega⟩
      have hp := mPw h hW (i := j) j0 (by omega) h3 h4
      rw [fX9_voucher_l24_s, lp_s]
      by_cases c : hs A v j
      · have := ih fu (j + 1) (a + 1) (by omega) (by omega) (by omega)
        rw [hv_t c, ← this]
        have hp := hp.1 c
        clear ih this
        simp (disch := omega) only [nmD, bdS, b2S, lit32, iA, iS, iM, iN, iLt, iLe, iE, zlT, zlF, zleT, zleF, zeT, zeF, RdI, WrI, DvI, jmaxI, jminI, jabsI, bI0, Zb0, Zb1, ZbI, ↓reduceIte, not_true_eq_false, not_false_eq_true, ite_not, and_true, true_and, and_false, false_and, and_self, e1, h.n1, hp, fX9_voucher_j51]
      · have := ih fu (j + 1) (a + 0) (by omega) (by omega) (by omega)
        rw [hv_f c, ← this]
        have hp := hp.2 c
        clear ih this
        simp (disch := omega) only [nmD, bdS, b2S, lit32, iA, iS, iM, iN, iLt, iLe, iE, zlT, zlF, zleT, zleF, zeT, zeF, RdI, WrI, DvI, jmaxI, jminI, jabsI, bI0, Zb0, Zb1, ZbI, ↓reduceIte, not_true_eq_false, not_false_eq_true, ite_not, and_true, true_and, and_false, false_and, and_self, e1, h.n1, hp, fX9_voucher_j51]
  rw [key A.nB.toNat FU 0 0 (by omega) (by omega) (by unfold FU; omega), lp_sum0]
theorem agVoucher (hX : RepX M.1.1 A) (hM : RepM m.1 A) (hW : WF K A) (x1 x2 : Int32) : ∃ r : Int32, fX8_voucher M x1 x2 = some (r, M) ∧ fX9_voucher m x1 x2 = some r := by
  have hn := hW.n
  obtain ⟨x, rfl, hx1, hx2⟩ := iX x1
  obtain ⟨y, rfl, hy1, hy2⟩ := iX x2
  by_cases h1 : 0 ≤ x ∧ x < A.nV
  · obtain ⟨h1a, h1b⟩ := h1
    by_cases h2 : 0 ≤ y ∧ y ≤ 2
    · obtain ⟨h2a, h2b⟩ := h2
      by_cases h3 : y = 2
      · refine ⟨iI (sm (hv A x) A.nB.toNat), ?_, ?_⟩
        · simp (disch := omega) only [nmD, bdS, b2S, lit32, iA, iS, iM, iN, iLt, iLe, iE, zlT, zlF, zleT, zleF, zeT, zeF, RdI, WrI, DvI, jmaxI, jminI, jabsI, bI0, Zb0, Zb1, ZbI, ↓reduceIte, not_true_eq_false, not_false_eq_true, ite_not, and_true, true_and, and_false, false_and, and_self, fX8_voucher, fX8_voucher_j53, xHasV hX hW, xIn, xPwN hX hW]
        · simp (disch := omega) only [nmD, bdS, b2S, lit32, iA, iS, iM, iN, iLt, iLe, iE, zlT, zlF, zleT, zleF, zeT, zeF, RdI, WrI, DvI, jmaxI, jminI, jabsI, bI0, Zb0, Zb1, ZbI, ↓reduceIte, not_true_eq_false, not_false_eq_true, ite_not, and_true, true_and, and_false, false_and, and_self, fX9_voucher, fX9_voucher_j82, mIsV hM hW, mIn, mPwN hM hW]
      · refine ⟨iI (A.V x y), ?_, ?_⟩
        · simp (disch := omega) only [nmD, bdS, b2S, lit32, iA, iS, iM, iN, iLt, iLe, iE, zlT, zlF, zleT, zleF, zeT, zeF, RdI, WrI, DvI, jmaxI, jminI, jabsI, bI0, Zb0, Zb1, ZbI, ↓reduceIte, not_true_eq_false, not_false_eq_true, ite_not, and_true, true_and, and_false, false_and, and_self, fX8_voucher, fX8_voucher_j53, xHasV hX hW, xIn, xV hX hW]
        · simp (disch := omega) only [nmD, bdS, b2S, lit32, iA, iS, iM, iN, iLt, iLe, iE, zlT, zlF, zleT, zleF, zeT, zeF, RdI, WrI, DvI, jmaxI, jminI, jabsI, bI0, Zb0, Zb1, ZbI, ↓reduceIte, not_true_eq_false, not_false_eq_true, ite_not, and_true, true_and, and_false, false_and, and_self, fX9_voucher, fX9_voucher_j82, mIsV hM hW, mIn, mPwN hM hW, hM.V]
    · refine ⟨iI (-1), ?_, ?_⟩
      · simp (disch := omega) only [nmD, bdS, b2S, lit32, iA, iS, iM, iN, iLt, iLe, iE, zlT, zlF, zleT, zleF, zeT, zeF, RdI, WrI, DvI, jmaxI, jminI, jabsI, bI0, Zb0, Zb1, ZbI, ↓reduceIte, not_true_eq_false, not_false_eq_true, ite_not, and_true, true_and, and_false, false_and, and_self, fX8_voucher, xHasV hX hW, xIn, h2]
      · simp (disch := omega) only [nmD, bdS, b2S, lit32, iA, iS, iM, iN, iLt, iLe, iE, zlT, zlF, zleT, zleF, zeT, zeF, RdI, WrI, DvI, jmaxI, jminI, jabsI, bI0, Zb0, Zb1, ZbI, ↓reduceIte, not_true_eq_false, not_false_eq_true, ite_not, and_true, true_and, and_false, false_and, and_self, fX9_voucher, mIsV hM hW, mIn, h2]
  · refine ⟨iI (-1), ?_, ?_⟩
    · simp (disch := omega) only [nmD, bdS, b2S, lit32, iA, iS, iM, iN, iLt, iLe, iE, zlT, zlF, zleT, zleF, zeT, zeF, RdI, WrI, DvI, jmaxI, jminI, jabsI, bI0, Zb0, Zb1, ZbI, ↓reduceIte, not_true_eq_false, not_false_eq_true, ite_not, and_true, true_and, and_false, false_and, and_self, fX8_voucher, xHasV hX hW, h1]
    · simp (disch := omega) only [nmD, bdS, b2S, lit32, iA, iS, iM, iN, iLt, iLe, iE, zlT, zlF, zleT, zleF, zeT, zeF, RdI, WrI, DvI, jmaxI, jminI, jabsI, bI0, Zb0, Zb1, ZbI, ↓reduceIte, not_true_eq_false, not_false_eq_true, ite_not, and_true, true_and, and_false, false_and, and_self, fX9_voucher, mIsV hM hW, h1]
theorem mSumB (h : RepM m.1 A) (hW : WF K A) {w : Int} {g : Int → Int} (hg : (w = 2 ∧ g = fun b => A.B b 4) ∨ (w = 3 ∧ g = fun b => A.B b 6) ∨ (w = 4 ∧ g = fun b => A.B b 5) ∨ (w = 5 ∧ g = rsum A) ∨ ((w = 1 ∨ w = 6) ∧ g = fun _ => 0)) (kk : Int32 → Option Int32) : fX9_sumOf_l4 m (iI w) kk FU (iI 0) (iI 0) = kk (iI (sm g A.nB.toNat)) := by
  have hn := hW.n
  have e1 : (1 : Int).toNat = 1 := rfl
  have key : ∀ (k fu : Nat) (j a : Int), 0 ≤ j → j + k = A.nB → k < fu → fX9_sumOf_l4 m (iI w) kk fu (iI a) (iI j) = kk (iI (lp (fun j b => b + g j) k j a)) := by
    intro k
    induction k with
    | zero =>
      intro fu j a j0 j1 j2
      obtain ⟨fu, rfl⟩ : ∃ q, fu = q + 1 := ⟨fu - 1, by omega⟩
      rw [fX9_sumOf_l4_s, lp_z]
      clear hg
      simp (disch := omega) only [nmD, bdS, b2S, lit32, iA, iS, iM, iN, iLt, iLe, iE, zlT, zlF, zleT, zleF, zeT, zeF, RdI, WrI, DvI, jmaxI, jminI, jabsI, bI0, Zb0, Zb1, ZbI, ↓reduceIte, not_true_eq_false, not_false_eq_true, ite_not, and_true, true_and, and_false, false_and, and_self, e1, h.n1]
    | succ k ih =>
      intro fu j a j0 j1 j2
      obtain ⟨fu, rfl⟩ : ∃ q, fu = q + 1 := ⟨fu - 1, by omega⟩
      have := ih fu (j + 1) (a + g j) (by omega) (by omega) (by omega)
      rw [fX9_sumOf_l4_s, lp_s, ← this]
      clear ih this
      rcases hg with ⟨rfl, rfl⟩ | ⟨rfl, rfl⟩ | ⟨rfl, rfl⟩ | ⟨rfl, rfl⟩ | ⟨rfl | rfl, rfl⟩
      · simp (disch := omega) only [nmD, bdS, b2S, lit32, iA, iS, iM, iN, iLt, iLe, iE, zlT, zlF, zleT, zleF, zeT, zeF, RdI, WrI, DvI, jmaxI, jminI, jabsI, bI0, Zb0, Zb1, ZbI, ↓reduceIte, not_true_eq_false, not_false_eq_true, ite_not, and_true, true_and, and_false, false_and, and_self, e1, h.n1, mBo h, fX9_sumOf_j72]
      · simp (disch := omega) only [nmD, bdS, b2S, lit32, iA, iS, iM, iN, iLt, iLe, iE, zlT, zlF, zleT, zleF, zeT, zeF, RdI, WrI, DvI, jmaxI, jminI, jabsI, bI0, Zb0, Zb1, ZbI, ↓reduceIte, not_true_eq_false, not_false_eq_true, ite_not, and_true, true_and, and_false, false_and, and_self, e1, h.n1, mBo h, fX9_sumOf_j72]
      · simp (disch := omega) only [nmD, bdS, b2S, lit32, iA, iS, iM, iN, iLt, iLe, iE, zlT, zlF, zleT, zleF, zeT, zeF, RdI, WrI, DvI, jmaxI, jminI, jabsI, bI0, Zb0, Zb1, ZbI, ↓reduceIte, not_true_eq_false, not_false_eq_true, ite_not, and_true, true_and, and_false, false_and, and_self, e1, h.n1, mBo h, fX9_sumOf_j72]
      · simp (disch := omega) only [nmD, bdS, b2S, lit32, iA, iS, iM, iN, iLt, iLe, iE, zlT, zlF, zleT, zleF, zeT, zeF, RdI, WrI, DvI, jmaxI, jminI, jabsI, bI0, Zb0, Zb1, ZbI, ↓reduceIte, not_true_eq_false, not_false_eq_true, ite_not, and_true, true_and, and_false, false_and, and_self, e1, h.n1, mPaid h hW, fX9_sumOf_j72]
      · simp (disch := omega) only [nmD, bdS, b2S, lit32, iA, iS, iM, iN, iLt, iLe, iE, zlT, zlF, zleT, zleF, zeT, zeF, RdI, WrI, DvI, jmaxI, jminI, jabsI, bI0, Zb0, Zb1, ZbI, ↓reduceIte, not_true_eq_false, not_false_eq_true, ite_not, and_true, true_and, and_false, false_and, and_self, e1, h.n1, mBo h, fX9_sumOf_j72]
      · simp (disch := omega) only [nmD, bdS, b2S, lit32, iA, iS, iM, iN, iLt, iLe, iE, zlT, zlF, zleT, zleF, zeT, zeF, RdI, WrI, DvI, jmaxI, jminI, jabsI, bI0, Zb0, Zb1, ZbI, ↓reduceIte, not_true_eq_false, not_false_eq_true, ite_not, and_true, true_and, and_false, false_and, and_self, e1, h.n1, mBo h, fX9_sumOf_j72]
  rw [key A.nB.toNat FU 0 0 (by omega) (by omega) (by unfold FU; omega), lp_sum0]
theorem mSumV (h : RepM m.1 A) (hW : WF K A) {w a0 : Int} {g : Int → Int} (hg : (w = 1 ∧ g = fun v => A.V v 1) ∨ (w = 6 ∧ g = fun v => A.V v 0) ∨ ((w = 2 ∨ w = 3 ∨ w = 4 ∨ w = 5) ∧ g = fun _ => 0)) : fX9_sumOf_l82 m (iI w) FU (iI a0) (iI 0) = some (iI (a0 + sm g A.nV.toNat)) := by
  have hn := hW.n
  have e2 : (2 : Int).toNat = 2 := rfl
  have key : ∀ (k fu : Nat) (j a : Int), 0 ≤ j → j + k = A.nV → k < fu → fX9_sumOf_l82 m (iI w) fu (iI a) (iI j) = some (iI (lp (fun j b => b + g j) k j a)) := by
    intro k
    induction k with
    | zero =>
      intro fu j a j0 j1 j2
      obtain ⟨fu, rfl⟩ : ∃ q, fu = q + 1 := ⟨fu - 1, by omega⟩
      rw [fX9_sumOf_l82_s, lp_z]
      clear hg
      simp (disch := omega) only [nmD, bdS, b2S, lit32, iA, iS, iM, iN, iLt, iLe, iE, zlT, zlF, zleT, zleF, zeT, zeF, RdI, WrI, DvI, jmaxI, jminI, jabsI, bI0, Zb0, Zb1, ZbI, ↓reduceIte, not_true_eq_false, not_false_eq_true, ite_not, and_true, true_and, and_false, false_and, and_self, e2, h.n2]
    | succ k ih =>
      intro fu j a j0 j1 j2
      obtain ⟨fu, rfl⟩ : ∃ q, fu = q + 1 := ⟨fu - 1, by omega⟩
      have := ih fu (j + 1) (a + g j) (by omega) (by omega) (by omega)
      rw [fX9_sumOf_l82_s, lp_s, ← this]
      clear ih this
      rcases hg with ⟨rfl, rfl⟩ | ⟨rfl, rfl⟩ | ⟨rfl | rfl | rfl | rfl, rfl⟩
      · simp (disch := omega) only [nmD, bdS, b2S, lit32, iA, iS, iM, iN, iLt, iLe, iE, zlT, zlF, zleT, zleF, zeT, zeF, RdI, WrI, DvI, jmaxI, jminI, jabsI, bI0, Zb0, Zb1, ZbI, ↓reduceIte, not_true_eq_false, not_false_eq_true, ite_not, and_true, true_and, and_false, false_and, and_self, e2, h.n2, h.V, fX9_sumOf_j137]
      · simp (disch := omega) only [nmD, bdS, b2S, lit32, iA, iS, iM, iN, iLt, iLe, iE, zlT, zlF, zleT, zleF, zeT, zeF, RdI, WrI, DvI, jmaxI, jminI, jabsI, bI0, Zb0, Zb1, ZbI, ↓reduceIte, not_true_eq_false, not_false_eq_true, ite_not, and_true, true_and, and_false, false_and, and_self, e2, h.n2, h.V0, fX9_sumOf_j137]
      · simp (disch := omega) only [nmD, bdS, b2S, lit32, iA, iS, iM, iN, iLt, iLe, iE, zlT, zlF, zleT, zleF, zeT, zeF, RdI, WrI, DvI, jmaxI, jminI, jabsI, bI0, Zb0, Zb1, ZbI, ↓reduceIte, not_true_eq_false, not_false_eq_true, ite_not, and_true, true_and, and_false, false_and, and_self, e2, h.n2, fX9_sumOf_j137]
      · simp (disch := omega) only [nmD, bdS, b2S, lit32, iA, iS, iM, iN, iLt, iLe, iE, zlT, zlF, zleT, zleF, zeT, zeF, RdI, WrI, DvI, jmaxI, jminI, jabsI, bI0, Zb0, Zb1, ZbI, ↓reduceIte, not_true_eq_false, not_false_eq_true, ite_not, and_true, true_and, and_false, false_and, and_self, e2, h.n2, fX9_sumOf_j137]
      · simp (disch := omega) only [nmD, bdS, b2S, lit32, iA, iS, iM, iN, iLt, iLe, iE, zlT, zlF, zleT, zleF, zeT, zeF, RdI, WrI, DvI, jmaxI, jminI, jabsI, bI0, Zb0, Zb1, ZbI, ↓reduceIte, not_true_eq_false, not_false_eq_true, ite_not, and_true, true_and, and_false, false_and, and_self, e2, h.n2, fX9_sumOf_j137]
      · simp (disch := omega) only [nmD, bdS, b2S, lit32, iA, iS, iM, iN, iLt, iLe, iE, zlT, zlF, zleT, zleF, zeT, zeF, RdI, WrI, DvI, jmaxI, jminI, jabsI, bI0, Zb0, Zb1, ZbI, ↓reduceIte, not_true_eq_false, not_false_eq_true, ite_not, and_true, true_and, and_false, false_and, and_self, e2, h.n2, fX9_sumOf_j137]
  rw [key A.nV.toNat FU 0 a0 (by omega) (by omega) (by unfold FU; omega), lp_sum]
  have e : sm (fun j => g (0 + j)) A.nV.toNat = sm g A.nV.toNat := sm_cong _ (fun j _ _ => by rw [show (0 : Int) + j = j by omega])
  rw [e]
theorem sm_0 (n : Nat) : sm (fun _ => 0) n = 0 := sm_zero n (fun _ _ _ => rfl)
theorem mSum {w r : Int} (hM : RepM m.1 A) (hW : WF K A) {g1 g2 : Int → Int} (h1 : (w = 2 ∧ g1 = fun b => A.B b 4) ∨ (w = 3 ∧ g1 = fun b => A.B b 6) ∨ (w = 4 ∧ g1 = fun b => A.B b 5) ∨ (w = 5 ∧ g1 = rsum A) ∨ ((w = 1 ∨ w = 6) ∧ g1 = fun _ => 0)) (h2 : (w = 1 ∧ g2 = fun v => A.V v 1) ∨ (w = 6 ∧ g2 = fun v => A.V v 0) ∨ ((w = 2 ∨ w = 3 ∨ w = 4 ∨ w = 5) ∧ g2 = fun _ => 0)) (hr : r = sm g1 A.nB.toNat + sm g2 A.nV.toNat) : fX9_money m (iI w) = some (iI r) := by
  have hw : 1 ≤ w ∧ w ≤ 6 := by omega
  have e0 : (0 : Int32) = iI 0 := rfl
  have hs : fX9_sumOf m (iI w) = some (iI r) := by
    unfold fX9_sumOf
    rw [e0, mSumB hM hW h1]
    rw [mSumV hM hW h2, hr]
  clear h1 h2 hr
  simp (disch := omega) only [nmD, bdS, b2S, lit32, iA, iS, iM, iN, iLt, iLe, iE, zlT, zlF, zleT, zleF, zeT, zeF, RdI, WrI, DvI, jmaxI, jminI, jabsI, bI0, Zb0, Zb1, ZbI, ↓reduceIte, not_true_eq_false, not_false_eq_true, ite_not, and_true, true_and, and_false, false_and, and_self, fX9_money, fX9_money_j32, mIn, hs]
theorem payTot {T : Tb} {nP : Int} {pb pq pl : Int → Int} (h : PP T A nP pb pq pl) (hW : WF K A) : sm (fun j => A.U (pq j)) nP.toNat = sm (rsum A) A.nB.toNat := by
  have hn := hW.n
  have hp := h.n hW
  have e1 : sm (rsum A) A.nB.toNat = sm (fun b => sm (fun j => if pb j = b then A.U (pq j) else 0) nP.toNat) A.nB.toNat := sm_cong _ (fun b b0 b1 => (h.sum A.U b0 (by omega)).symm)
  rw [e1, sm_swap]
  refine sm_cong _ (fun j j0 j1 => ?_)
  have hb := (h.b hW j0 (by omega)).1
  rw [sm_one hb.1 A.nB.toNat (by omega) (fun i _ _ i2 => if_neg (fun e => i2 e.symm)), if_pos rfl]
theorem agMoney (hX : RepX M.1.1 A) (hM : RepM m.1 A) (hW : WF K A) (x1 : Int32) : ∃ r : Int32, fX8_money M x1 = some (r, M) ∧ fX9_money m x1 = some r := by
  have hn := hW.n
  have e3 : (3 : Int).toNat = 3 := rfl
  obtain ⟨x, rfl, hx1, hx2⟩ := iX x1
  by_cases h1 : 0 ≤ x ∧ x ≤ 6
  · rcases (show x = 0 ∨ x = 1 ∨ x = 2 ∨ x = 3 ∨ x = 4 ∨ x = 5 ∨ x = 6 by omega) with rfl | rfl | rfl | rfl | rfl | rfl | rfl
    · refine ⟨iI A.t, ?_, ?_⟩
      · simp (disch := omega) only [nmD, bdS, b2S, lit32, iA, iS, iM, iN, iLt, iLe, iE, zlT, zlF, zleT, zleF, zeT, zeF, RdI, WrI, DvI, jmaxI, jminI, jabsI, bI0, Zb0, Zb1, ZbI, ↓reduceIte, not_true_eq_false, not_false_eq_true, ite_not, and_true, true_and, and_false, false_and, and_self, fX8_money, hX.T]
      · simp (disch := omega) only [nmD, bdS, b2S, lit32, iA, iS, iM, iN, iLt, iLe, iE, zlT, zlF, zleT, zleF, zeT, zeF, RdI, WrI, DvI, jmaxI, jminI, jabsI, bI0, Zb0, Zb1, ZbI, ↓reduceIte, not_true_eq_false, not_false_eq_true, ite_not, and_true, true_and, and_false, false_and, and_self, fX9_money, fX9_money_j32, mIn, e3, hM.n3]
    · refine ⟨_, ?_, mSum hM hW (Or.inr (Or.inr (Or.inr (Or.inr ⟨Or.inl rfl, rfl⟩)))) (Or.inl ⟨rfl, rfl⟩) rfl⟩
      rw [sm_0, Int.zero_add]
      have ht := xTot (n := 16) (cap := iI 8) (w := iI 2) (c := 1) hX.uV hn.2.2.2.2.1 (by omega) (fun v => A.V v 1) (fun r r0 r1 => xV hX hW r0 r1 (by omega) (by omega))
      simp (disch := omega) only [nmD, bdS, b2S, lit32, iA, iS, iM, iN, iLt, iLe, iE, zlT, zlF, zleT, zleF, zeT, zeF, RdI, WrI, DvI, jmaxI, jminI, jabsI, bI0, Zb0, Zb1, ZbI, ↓reduceIte, not_true_eq_false, not_false_eq_true, ite_not, and_true, true_and, and_false, false_and, and_self, fX8_money, ht]
    · refine ⟨_, ?_, mSum hM hW (Or.inl ⟨rfl, rfl⟩) (Or.inr (Or.inr ⟨Or.inl rfl, rfl⟩)) rfl⟩
      rw [sm_0, Int.add_zero]
      have ht := xTot (n := 160) (cap := iI 16) (w := iI 10) (c := 4) hX.uB hn.2.2.1 (by omega) (fun v => A.B v 4) (fun r r0 r1 => xB hX hW r0 r1 (by omega) (by omega))
      simp (disch := omega) only [nmD, bdS, b2S, lit32, iA, iS, iM, iN, iLt, iLe, iE, zlT, zlF, zleT, zleF, zeT, zeF, RdI, WrI, DvI, jmaxI, jminI, jabsI, bI0, Zb0, Zb1, ZbI, ↓reduceIte, not_true_eq_false, not_false_eq_true, ite_not, and_true, true_and, and_false, false_and, and_self, fX8_money, ht]
    · refine ⟨_, ?_, mSum hM hW (Or.inr (Or.inl ⟨rfl, rfl⟩)) (Or.inr (Or.inr ⟨Or.inr (Or.inl rfl), rfl⟩)) rfl⟩
      rw [sm_0, Int.add_zero]
      have ht := xTot (n := 160) (cap := iI 16) (w := iI 10) (c := 7) hX.uB hn.2.2.1 (by omega) (fun v => A.B v 6) (fun r r0 r1 => xB7 hX hW r0 r1)
      simp (disch := omega) only [nmD, bdS, b2S, lit32, iA, iS, iM, iN, iLt, iLe, iE, zlT, zlF, zleT, zleF, zeT, zeF, RdI, WrI, DvI, jmaxI, jminI, jabsI, bI0, Zb0, Zb1, ZbI, ↓reduceIte, not_true_eq_false, not_false_eq_true, ite_not, and_true, true_and, and_false, false_and, and_self, fX8_money, ht]
    · refine ⟨_, ?_, mSum hM hW (Or.inr (Or.inr (Or.inl ⟨rfl, rfl⟩))) (Or.inr (Or.inr ⟨Or.inr (Or.inr (Or.inl rfl)), rfl⟩)) rfl⟩
      rw [sm_0, Int.add_zero]
      have ht := xTot (n := 160) (cap := iI 16) (w := iI 10) (c := 5) hX.uB hn.2.2.1 (by omega) (fun v => A.B v 5) (fun r r0 r1 => xB hX hW r0 r1 (by omega) (by omega))
      simp (disch := omega) only [nmD, bdS, b2S, lit32, iA, iS, iM, iN, iLt, iLe, iE, zlT, zlF, zleT, zleF, zeT, zeF, RdI, WrI, DvI, jmaxI, jminI, jabsI, bI0, Zb0, Zb1, ZbI, ↓reduceIte, not_true_eq_false, not_false_eq_true, ite_not, and_true, true_and, and_false, false_and, and_self, fX8_money, ht]
    · refine ⟨_, ?_, mSum hM hW (Or.inr (Or.inr (Or.inr (Or.inl ⟨rfl, rfl⟩)))) (Or.inr (Or.inr ⟨Or.inr (Or.inr (Or.inr rfl)), rfl⟩)) rfl⟩
      rw [sm_0, Int.add_zero]
      obtain ⟨nP, pb, pq, pl, hP⟩ := hX.P
      have hp := hP.n hW
      have ht := xTot (n := 64) (cap := iI 16) (w := iI 4) (c := 2) hP.1 hp.1 hp.2 (fun j => A.U (pq j)) (fun r r0 r1 => hP.c2 hW r0 r1)
      rw [payTot hP hW] at ht
      simp (disch := omega) only [nmD, bdS, b2S, lit32, iA, iS, iM, iN, iLt, iLe, iE, zlT, zlF, zleT, zleF, zeT, zeF, RdI, WrI, DvI, jmaxI, jminI, jabsI, bI0, Zb0, Zb1, ZbI, ↓reduceIte, not_true_eq_false, not_false_eq_true, ite_not, and_true, true_and, and_false, false_and, and_self, fX8_money, ht]
    · refine ⟨_, ?_, mSum hM hW (Or.inr (Or.inr (Or.inr (Or.inr ⟨Or.inr rfl, rfl⟩)))) (Or.inr (Or.inl ⟨rfl, rfl⟩)) rfl⟩
      rw [sm_0, Int.zero_add]
      have ht := xTot (n := 16) (cap := iI 8) (w := iI 2) (c := 0) hX.uV hn.2.2.2.2.1 (by omega) (fun v => A.V v 0) (fun r r0 r1 => xV hX hW r0 r1 (by omega) (by omega))
      simp (disch := omega) only [nmD, bdS, b2S, lit32, iA, iS, iM, iN, iLt, iLe, iE, zlT, zlF, zleT, zleF, zeT, zeF, RdI, WrI, DvI, jmaxI, jminI, jabsI, bI0, Zb0, Zb1, ZbI, ↓reduceIte, not_true_eq_false, not_false_eq_true, ite_not, and_true, true_and, and_false, false_and, and_self, fX8_money, ht]
  · refine ⟨iI (-1), ?_, ?_⟩
    · simp (disch := omega) only [nmD, bdS, b2S, lit32, iA, iS, iM, iN, iLt, iLe, iE, zlT, zlF, zleT, zleF, zeT, zeF, RdI, WrI, DvI, jmaxI, jminI, jabsI, bI0, Zb0, Zb1, ZbI, ↓reduceIte, not_true_eq_false, not_false_eq_true, ite_not, and_true, true_and, and_false, false_and, and_self, fX8_money]
    · simp (disch := omega) only [nmD, bdS, b2S, lit32, iA, iS, iM, iN, iLt, iLe, iE, zlT, zlF, zleT, zleF, zeT, zeF, RdI, WrI, DvI, jmaxI, jminI, jabsI, bI0, Zb0, Zb1, ZbI, ↓reduceIte, not_true_eq_false, not_false_eq_true, ite_not, and_true, true_and, and_false, false_and, and_self, fX9_money, fX9_money_j32, mIn, h1]
end LK
