/-! The class's reads, and what holds of the class between calls. -/
section CR
variable {M : Xm} {A : Ab} {K : Int}
theorem rRoom (hX : RepX M.1.1 A) (hW : WF K A) {x y : Int} (h1 : 0 ≤ x ∧ x < A.nR) (h2 : 0 ≤ y ∧ y < 11) : fX8_room M (iI x) (iI y) = some (iI (A.R x y), M) := by
  have hn := hW.n
  obtain ⟨h1a, h1b⟩ := h1
  obtain ⟨h2a, h2b⟩ := h2
  simp (disch := omega) only [nmD, bdS, b2S, lit32, iA, iS, iM, iN, iLt, iLe, iE, zlT, zlF, zleT, zleF, zeT, zeF, RdI, WrI, DvI, jmaxI, jminI, jabsI, bI0, Zb0, Zb1, ZbI, ↓reduceIte, not_true_eq_false, not_false_eq_true, ite_not, and_true, true_and, and_false, false_and, and_self, fX8_room, fX8_room_j56, xHasR hX hW, xIn, xR hX hW]
theorem rRoom11 (hX : RepX M.1.1 A) (hW : WF K A) {x : Int} (h1 : 0 ≤ x ∧ x < A.nR) : fX8_room M (iI x) (iI 11) = some (iI (nx A x (-1)), M) := by
  have hn := hW.n
  obtain ⟨h1a, h1b⟩ := h1
  simp (disch := omega) only [nmD, bdS, b2S, lit32, iA, iS, iM, iN, iLt, iLe, iE, zlT, zlF, zleT, zleF, zeT, zeF, RdI, WrI, DvI, jmaxI, jminI, jabsI, bI0, Zb0, Zb1, ZbI, ↓reduceIte, not_true_eq_false, not_false_eq_true, ite_not, and_true, true_and, and_false, false_and, and_self, fX8_room, fX8_room_j56, xHasR hX hW, xIn, xNx hX hW]
theorem rRoomP (hX : RepX M.1.1 A) (hW : WF K A) {x y : Int} (h1 : 0 ≤ x ∧ x < A.nR) (h3 : -2147483648 ≤ y) (h4 : y < 2147483648) (h2 : ¬ (0 ≤ y ∧ y ≤ 11)) : fX8_room M (iI x) (iI y) = some (iI (-1), M) := by
  have hn := hW.n
  obtain ⟨h1a, h1b⟩ := h1
  simp (disch := omega) only [nmD, bdS, b2S, lit32, iA, iS, iM, iN, iLt, iLe, iE, zlT, zlF, zleT, zleF, zeT, zeF, RdI, WrI, DvI, jmaxI, jminI, jabsI, bI0, Zb0, Zb1, ZbI, ↓reduceIte, not_true_eq_false, not_false_eq_true, ite_not, and_true, true_and, and_false, false_and, and_self, fX8_room, fX8_room_j56, xHasR hX hW, xIn, h2]
theorem rRoomO (hX : RepX M.1.1 A) (hW : WF K A) {x : Int} {y : Int32} (h3 : -2147483648 ≤ x) (h4 : x < 2147483648) (h1 : ¬ (0 ≤ x ∧ x < A.nR)) : fX8_room M (iI x) y = some (iI (-1), M) := by
  simp (disch := omega) only [nmD, bdS, b2S, lit32, iA, iS, iM, iN, iLt, iLe, iE, zlT, zlF, zleT, zleF, zeT, zeF, RdI, WrI, DvI, jmaxI, jminI, jabsI, bI0, Zb0, Zb1, ZbI, ↓reduceIte, not_true_eq_false, not_false_eq_true, ite_not, and_true, true_and, and_false, false_and, and_self, fX8_room, fX8_room_j56, xHasR hX hW, h1]
theorem rBook (hX : RepX M.1.1 A) (hW : WF K A) {x y : Int} (h1 : 0 ≤ x ∧ x < A.nB) (h2 : 0 ≤ y ∧ y < 6) : fX8_booking M (iI x) (iI y) = some (iI (A.B x y), M) := by
  have hn := hW.n
  obtain ⟨h1a, h1b⟩ := h1
  obtain ⟨h2a, h2b⟩ := h2
  simp (disch := omega) only [nmD, bdS, b2S, lit32, iA, iS, iM, iN, iLt, iLe, iE, zlT, zlF, zleT, zleF, zeT, zeF, RdI, WrI, DvI, jmaxI, jminI, jabsI, bI0, Zb0, Zb1, ZbI, ↓reduceIte, not_true_eq_false, not_false_eq_true, ite_not, and_true, true_and, and_false, false_and, and_self, fX8_booking, xHasB hX hW, xIn, xB hX hW]
theorem rBook6 (hX : RepX M.1.1 A) (hW : WF K A) {x : Int} (h1 : 0 ≤ x ∧ x < A.nB) : fX8_booking M (iI x) (iI 6) = some (iI (rsum A x), M) := by
  have hn := hW.n
  obtain ⟨h1a, h1b⟩ := h1
  simp (disch := omega) only [nmD, bdS, b2S, lit32, iA, iS, iM, iN, iLt, iLe, iE, zlT, zlF, zleT, zleF, zeT, zeF, RdI, WrI, DvI, jmaxI, jminI, jabsI, bI0, Zb0, Zb1, ZbI, ↓reduceIte, not_true_eq_false, not_false_eq_true, ite_not, and_true, true_and, and_false, false_and, and_self, fX8_booking, xHasB hX hW, xIn, xPaid hX hW]
theorem rBook7 (hX : RepX M.1.1 A) (hW : WF K A) {x y : Int} (h1 : 0 ≤ x ∧ x < A.nB) (h2 : y = 7 ∨ y = 8 ∨ y = 9) : fX8_booking M (iI x) (iI y) = some (iI (A.B x (y - 1)), M) := by
  have hn := hW.n
  obtain ⟨h1a, h1b⟩ := h1
  have hc : fX6_cell 160 (iI 16) (iI 10) M.1.1.2.1 (iI x) (iI y) = some (iI (A.B x (y - 1))) := by
    rcases h2 with rfl | rfl | rfl
    · exact xB7 hX hW h1a h1b
    · exact xB8 hX hW h1a h1b
    · exact xB9 hX hW h1a h1b
  have hy : 7 ≤ y ∧ y ≤ 9 := by omega
  clear h2
  obtain ⟨hy1, hy2⟩ := hy
  simp (disch := omega) only [nmD, bdS, b2S, lit32, iA, iS, iM, iN, iLt, iLe, iE, zlT, zlF, zleT, zleF, zeT, zeF, RdI, WrI, DvI, jmaxI, jminI, jabsI, bI0, Zb0, Zb1, ZbI, ↓reduceIte, not_true_eq_false, not_false_eq_true, ite_not, and_true, true_and, and_false, false_and, and_self, fX8_booking, xHasB hX hW, xIn, hc]
theorem rBook10 (hX : RepX M.1.1 A) (hW : WF K A) {x : Int} (h1 : 0 ≤ x ∧ x < A.nB) : fX8_booking M (iI x) (iI 10) = some (iI (cn A x), M) := by
  have hn := hW.n
  obtain ⟨h1a, h1b⟩ := h1
  simp (disch := omega) only [nmD, bdS, b2S, lit32, iA, iS, iM, iN, iLt, iLe, iE, zlT, zlF, zleT, zleF, zeT, zeF, RdI, WrI, DvI, jmaxI, jminI, jabsI, bI0, Zb0, Zb1, ZbI, ↓reduceIte, not_true_eq_false, not_false_eq_true, ite_not, and_true, true_and, and_false, false_and, and_self, fX8_booking, xHasB hX hW, xIn, xLeft hX hW]
theorem rBookO (hX : RepX M.1.1 A) (hW : WF K A) {x : Int} {y : Int32} (h3 : -2147483648 ≤ x) (h4 : x < 2147483648) (h1 : ¬ (0 ≤ x ∧ x < A.nB)) : fX8_booking M (iI x) y = some (iI (-1), M) := by
  simp (disch := omega) only [nmD, bdS, b2S, lit32, iA, iS, iM, iN, iLt, iLe, iE, zlT, zlF, zleT, zleF, zeT, zeF, RdI, WrI, DvI, jmaxI, jminI, jabsI, bI0, Zb0, Zb1, ZbI, ↓reduceIte, not_true_eq_false, not_false_eq_true, ite_not, and_true, true_and, and_false, false_and, and_self, fX8_booking, xHasB hX hW, h1]
theorem rVou (hX : RepX M.1.1 A) (hW : WF K A) {x y : Int} (h1 : 0 ≤ x ∧ x < A.nV) (h2 : 0 ≤ y ∧ y < 2) : fX8_voucher M (iI x) (iI y) = some (iI (A.V x y), M) := by
  have hn := hW.n
  obtain ⟨h1a, h1b⟩ := h1
  obtain ⟨h2a, h2b⟩ := h2
  simp (disch := omega) only [nmD, bdS, b2S, lit32, iA, iS, iM, iN, iLt, iLe, iE, zlT, zlF, zleT, zleF, zeT, zeF, RdI, WrI, DvI, jmaxI, jminI, jabsI, bI0, Zb0, Zb1, ZbI, ↓reduceIte, not_true_eq_false, not_false_eq_true, ite_not, and_true, true_and, and_false, false_and, and_self, fX8_voucher, fX8_voucher_j53, xHasV hX hW, xIn, xV hX hW]
theorem rVou2 (hX : RepX M.1.1 A) (hW : WF K A) {x : Int} (h1 : 0 ≤ x ∧ x < A.nV) : fX8_voucher M (iI x) (iI 2) = some (iI (sm (hv A x) A.nB.toNat), M) := by
  have hn := hW.n
  obtain ⟨h1a, h1b⟩ := h1
  simp (disch := omega) only [nmD, bdS, b2S, lit32, iA, iS, iM, iN, iLt, iLe, iE, zlT, zlF, zleT, zleF, zeT, zeF, RdI, WrI, DvI, jmaxI, jminI, jabsI, bI0, Zb0, Zb1, ZbI, ↓reduceIte, not_true_eq_false, not_false_eq_true, ite_not, and_true, true_and, and_false, false_and, and_self, fX8_voucher, fX8_voucher_j53, xHasV hX hW, xIn, xPwN hX hW]
theorem rVouO (hX : RepX M.1.1 A) (hW : WF K A) {x : Int} {y : Int32} (h3 : -2147483648 ≤ x) (h4 : x < 2147483648) (h1 : ¬ (0 ≤ x ∧ x < A.nV)) : fX8_voucher M (iI x) y = some (iI (-1), M) := by
  simp (disch := omega) only [nmD, bdS, b2S, lit32, iA, iS, iM, iN, iLt, iLe, iE, zlT, zlF, zleT, zleF, zeT, zeF, RdI, WrI, DvI, jmaxI, jminI, jabsI, bI0, Zb0, Zb1, ZbI, ↓reduceIte, not_true_eq_false, not_false_eq_true, ite_not, and_true, true_and, and_false, false_and, and_self, fX8_voucher, xHasV hX hW, h1]
theorem rMon0 (hX : RepX M.1.1 A) : fX8_money M (iI 0) = some (iI A.t, M) := by
  simp (disch := omega) only [nmD, bdS, b2S, lit32, iA, iS, iM, iN, iLt, iLe, iE, zlT, zlF, zleT, zleF, zeT, zeF, RdI, WrI, DvI, jmaxI, jminI, jabsI, bI0, Zb0, Zb1, ZbI, ↓reduceIte, not_true_eq_false, not_false_eq_true, ite_not, and_true, true_and, and_false, false_and, and_self, fX8_money, hX.T]
theorem rMon1 (hX : RepX M.1.1 A) (hW : WF K A) : fX8_money M (iI 1) = some (iI (sm (fun v => A.V v 1) A.nV.toNat), M) := by
  have hn := hW.n
  have ht := xTot (n := 16) (cap := iI 8) (w := iI 2) (c := 1) hX.uV hn.2.2.2.2.1 (by omega) (fun v => A.V v 1) (fun r r0 r1 => xV hX hW r0 r1 (by omega) (by omega))
  simp (disch := omega) only [nmD, bdS, b2S, lit32, iA, iS, iM, iN, iLt, iLe, iE, zlT, zlF, zleT, zleF, zeT, zeF, RdI, WrI, DvI, jmaxI, jminI, jabsI, bI0, Zb0, Zb1, ZbI, ↓reduceIte, not_true_eq_false, not_false_eq_true, ite_not, and_true, true_and, and_false, false_and, and_self, fX8_money, ht]
theorem rMon2 (hX : RepX M.1.1 A) (hW : WF K A) : fX8_money M (iI 2) = some (iI (sm (fun b => A.B b 4) A.nB.toNat), M) := by
  have hn := hW.n
  have ht := xTot (n := 160) (cap := iI 16) (w := iI 10) (c := 4) hX.uB hn.2.2.1 (by omega) (fun v => A.B v 4) (fun r r0 r1 => xB hX hW r0 r1 (by omega) (by omega))
  simp (disch := omega) only [nmD, bdS, b2S, lit32, iA, iS, iM, iN, iLt, iLe, iE, zlT, zlF, zleT, zleF, zeT, zeF, RdI, WrI, DvI, jmaxI, jminI, jabsI, bI0, Zb0, Zb1, ZbI, ↓reduceIte, not_true_eq_false, not_false_eq_true, ite_not, and_true, true_and, and_false, false_and, and_self, fX8_money, ht]
theorem rMon3 (hX : RepX M.1.1 A) (hW : WF K A) : fX8_money M (iI 3) = some (iI (sm (fun b => A.B b 6) A.nB.toNat), M) := by
  have hn := hW.n
  have ht := xTot (n := 160) (cap := iI 16) (w := iI 10) (c := 7) hX.uB hn.2.2.1 (by omega) (fun v => A.B v 6) (fun r r0 r1 => xB7 hX hW r0 r1)
  simp (disch := omega) only [nmD, bdS, b2S, lit32, iA, iS, iM, iN, iLt, iLe, iE, zlT, zlF, zleT, zleF, zeT, zeF, RdI, WrI, DvI, jmaxI, jminI, jabsI, bI0, Zb0, Zb1, ZbI, ↓reduceIte, not_true_eq_false, not_false_eq_true, ite_not, and_true, true_and, and_false, false_and, and_self, fX8_money, ht]
theorem rMon4 (hX : RepX M.1.1 A) (hW : WF K A) : fX8_money M (iI 4) = some (iI (sm (fun b => A.B b 5) A.nB.toNat), M) := by
  have hn := hW.n
  have ht := xTot (n := 160) (cap := iI 16) (w := iI 10) (c := 5) hX.uB hn.2.2.1 (by omega) (fun v => A.B v 5) (fun r r0 r1 => xB hX hW r0 r1 (by omega) (by omega))
  simp (disch := omega) only [nmD, bdS, b2S, lit32, iA, iS, iM, iN, iLt, iLe, iE, zlT, zlF, zleT, zleF, zeT, zeF, RdI, WrI, DvI, jmaxI, jminI, jabsI, bI0, Zb0, Zb1, ZbI, ↓reduceIte, not_true_eq_false, not_false_eq_true, ite_not, and_true, true_and, and_false, false_and, and_self, fX8_money, ht]
theorem rMon5 (hX : RepX M.1.1 A) (hW : WF K A) : fX8_money M (iI 5) = some (iI (sm (rsum A) A.nB.toNat), M) := by
  obtain ⟨nP, pb, pq, pl, hP⟩ := hX.P
  have hp := hP.n hW
  have ht := xTot (n := 64) (cap := iI 16) (w := iI 4) (c := 2) hP.1 hp.1 hp.2 (fun j => A.U (pq j)) (fun r r0 r1 => hP.c2 hW r0 r1)
  rw [payTot hP hW] at ht
  simp (disch := omega) only [nmD, bdS, b2S, lit32, iA, iS, iM, iN, iLt, iLe, iE, zlT, zlF, zleT, zleF, zeT, zeF, RdI, WrI, DvI, jmaxI, jminI, jabsI, bI0, Zb0, Zb1, ZbI, ↓reduceIte, not_true_eq_false, not_false_eq_true, ite_not, and_true, true_and, and_false, false_and, and_self, fX8_money, ht]
theorem rMon6 (hX : RepX M.1.1 A) (hW : WF K A) : fX8_money M (iI 6) = some (iI (sm (fun v => A.V v 0) A.nV.toNat), M) := by
  have hn := hW.n
  have ht := xTot (n := 16) (cap := iI 8) (w := iI 2) (c := 0) hX.uV hn.2.2.2.2.1 (by omega) (fun v => A.V v 0) (fun r r0 r1 => xV hX hW r0 r1 (by omega) (by omega))
  simp (disch := omega) only [nmD, bdS, b2S, lit32, iA, iS, iM, iN, iLt, iLe, iE, zlT, zlF, zleT, zleF, zeT, zeF, RdI, WrI, DvI, jmaxI, jminI, jabsI, bI0, Zb0, Zb1, ZbI, ↓reduceIte, not_true_eq_false, not_false_eq_true, ite_not, and_true, true_and, and_false, false_and, and_self, fX8_money, ht]
theorem rMonO {x : Int} (h1 : -2147483648 ≤ x) (h2 : x < 2147483648) (h : ¬ (0 ≤ x ∧ x ≤ 6)) : fX8_money M (iI x) = some (iI (-1), M) := by
  simp (disch := omega) only [nmD, bdS, b2S, lit32, iA, iS, iM, iN, iLt, iLe, iE, zlT, zlF, zleT, zleF, zeT, zeF, RdI, WrI, DvI, jmaxI, jminI, jabsI, bI0, Zb0, Zb1, ZbI, ↓reduceIte, not_true_eq_false, not_false_eq_true, ite_not, and_true, true_and, and_false, false_and, and_self, fX8_money]
/-- what holds of the class between the law's calls -/
def InvX (K : Int) (M : Xm) (A : Ab) : Prop := StX M.1 (A, none, none) ∧ (∃ (n : Int) (H : Int → FS), HX M.2.1 n H) ∧ M.2.2.2.2.1 = iI 0 ∧ WF K A
theorem InvX.X (h : InvX K M A) : RepX M.1.1 A := h.1.1
theorem InvX.W (h : InvX K M A) : WF K A := h.2.2.2
theorem rCnt0 (h : InvX K M A) : fX8_count M (iI 0) = some (iI A.nR, M) := by
  have hn := h.W.n
  have s := xSizeR h.X
  simp (disch := omega) only [nmD, bdS, b2S, lit32, iA, iS, iM, iN, iLt, iLe, iE, zlT, zlF, zleT, zleF, zeT, zeF, RdI, WrI, DvI, jmaxI, jminI, jabsI, bI0, Zb0, Zb1, ZbI, ↓reduceIte, not_true_eq_false, not_false_eq_true, ite_not, and_true, true_and, and_false, false_and, and_self, fX8_count, xIn, s]
theorem rCnt1 (h : InvX K M A) : fX8_count M (iI 1) = some (iI A.nB, M) := by
  have hn := h.W.n
  have s := xSizeB h.X
  simp (disch := omega) only [nmD, bdS, b2S, lit32, iA, iS, iM, iN, iLt, iLe, iE, zlT, zlF, zleT, zleF, zeT, zeF, RdI, WrI, DvI, jmaxI, jminI, jabsI, bI0, Zb0, Zb1, ZbI, ↓reduceIte, not_true_eq_false, not_false_eq_true, ite_not, and_true, true_and, and_false, false_and, and_self, fX8_count, xIn, s]
theorem rCnt2 (h : InvX K M A) : fX8_count M (iI 2) = some (iI A.nV, M) := by
  have hn := h.W.n
  have s := xSizeV h.X
  simp (disch := omega) only [nmD, bdS, b2S, lit32, iA, iS, iM, iN, iLt, iLe, iE, zlT, zlF, zleT, zleF, zeT, zeF, RdI, WrI, DvI, jmaxI, jminI, jabsI, bI0, Zb0, Zb1, ZbI, ↓reduceIte, not_true_eq_false, not_false_eq_true, ite_not, and_true, true_and, and_false, false_and, and_self, fX8_count, xIn, s]
theorem rCnt3 (h : InvX K M A) : fX8_count M (iI 3) = some (iI 0, M) := by
  have q1 : M.1.2.1.1 = iI 0 := h.1.2.1
  have q3 : M.1.2.2.1 = iI 0 := h.1.2.2
  have s : fX5_snapshots M.1 = some (iI 0) := by simp (disch := omega) only [nmD, bdS, b2S, lit32, iA, iS, iM, iN, iLt, iLe, iE, zlT, zlF, zleT, zleF, zeT, zeF, RdI, WrI, DvI, jmaxI, jminI, jabsI, bI0, Zb0, Zb1, ZbI, ↓reduceIte, not_true_eq_false, not_false_eq_true, ite_not, and_true, true_and, and_false, false_and, and_self, fX5_snapshots, fX5_snapshots_j15, fX5_snapshots_j30, q1, q3, Int.add_zero]
  simp (disch := omega) only [nmD, bdS, b2S, lit32, iA, iS, iM, iN, iLt, iLe, iE, zlT, zlF, zleT, zleF, zeT, zeF, RdI, WrI, DvI, jmaxI, jminI, jabsI, bI0, Zb0, Zb1, ZbI, ↓reduceIte, not_true_eq_false, not_false_eq_true, ite_not, and_true, true_and, and_false, false_and, and_self, fX8_count, xIn, s]
theorem rCnt5 (h : InvX K M A) : fX8_count M (iI 5) = some (iI 0, M) := by
  have s : fX3_size M.2.2 = some (iI 0) := by unfold fX3_size; rw [h.2.2.1]
  simp (disch := omega) only [nmD, bdS, b2S, lit32, iA, iS, iM, iN, iLt, iLe, iE, zlT, zlF, zleT, zleF, zeT, zeF, RdI, WrI, DvI, jmaxI, jminI, jabsI, bI0, Zb0, Zb1, ZbI, ↓reduceIte, not_true_eq_false, not_false_eq_true, ite_not, and_true, true_and, and_false, false_and, and_self, fX8_count, xIn, s]
theorem rCntS (h : InvX K M A) {x : Int} (h1 : 0 ≤ x ∧ x ≤ 4) : fX8_count M (iI (6 + x)) = some (iI (A.S x), M) := by
  obtain ⟨c6a, c6b⟩ := h1
  have t1 := xset h.X (k := 6 + x - 6) (by omega) (by omega)
  have e : 6 + x - 6 = x := by omega
  have e2 : A.S (6 + x - 6) = A.S x := by rw [e]
  rw [e2] at t1
  simp (disch := omega) only [nmD, bdS, b2S, lit32, iA, iS, iM, iN, iLt, iLe, iE, zlT, zlF, zleT, zleF, zeT, zeF, RdI, WrI, DvI, jmaxI, jminI, jabsI, bI0, Zb0, Zb1, ZbI, ↓reduceIte, not_true_eq_false, not_false_eq_true, ite_not, and_true, true_and, and_false, false_and, and_self, fX8_count, xIn, t1]
theorem rCntB (h : InvX K M A) {x : Int} (h1 : 0 ≤ x ∧ x ≤ 3) : fX8_count M (iI (11 + x)) = some (iI (cst A x), M) := by
  obtain ⟨c6a, c6b⟩ := h1
  have t1 := xCst h.X h.W (x := 11 + x - 11) (by omega)
  have e2 : cst A (11 + x - 11) = cst A x := by rw [show 11 + x - 11 = x by omega]
  rw [e2] at t1
  simp (disch := omega) only [nmD, bdS, b2S, lit32, iA, iS, iM, iN, iLt, iLe, iE, zlT, zlF, zleT, zleF, zeT, zeF, RdI, WrI, DvI, jmaxI, jminI, jabsI, bI0, Zb0, Zb1, ZbI, ↓reduceIte, not_true_eq_false, not_false_eq_true, ite_not, and_true, true_and, and_false, false_and, and_self, fX8_count, xIn, t1]
theorem rCntO {x : Int} (h1 : -2147483648 ≤ x) (h2 : x < 2147483648) (h : ¬ (0 ≤ x ∧ x ≤ 14)) : fX8_count M (iI x) = some (iI (-1), M) := by
  by_cases c : x < 0
  · simp (disch := omega) only [nmD, bdS, b2S, lit32, iA, iS, iM, iN, iLt, iLe, iE, zlT, zlF, zleT, zleF, zeT, zeF, RdI, WrI, DvI, jmaxI, jminI, jabsI, bI0, Zb0, Zb1, ZbI, ↓reduceIte, not_true_eq_false, not_false_eq_true, ite_not, and_true, true_and, and_false, false_and, and_self, fX8_count, xIn]
  · simp (disch := omega) only [nmD, bdS, b2S, lit32, iA, iS, iM, iN, iLt, iLe, iE, zlT, zlF, zleT, zleF, zeT, zeF, RdI, WrI, DvI, jmaxI, jminI, jabsI, bI0, Zb0, Zb1, ZbI, ↓reduceIte, not_true_eq_false, not_false_eq_true, ite_not, and_true, true_and, and_false, false_and, and_self, fX8_count, xIn]
end CR
section CG
variable {M : Xm} {A A' : Ab} {K K' : Int}
theorem actOk (h : InvX K M A) {cx : Vn → Option (Int32 × Vn)} {r : Int} {V' : Vn} (e : cx M.1.1 = some (iI r, V')) (r0 : 0 ≤ r) (r1 : r < 2147483648) (hX : RepX V' A') (hW : WF K' A') : ∃ M' : Xm, acX M cx = some (iI r, M') ∧ InvX K' M' A' := by
  obtain ⟨hs, ⟨n, H, hH⟩, ht, hw⟩ := h
  obtain ⟨G', x1, -, x3⟩ := actX (a := (A, none, none)) (K := K) hH hs ⟨hw, trivial, trivial⟩ e
  have c : ¬ iI r < 0 := fun q => by
    rw [show (0 : Int32) = iI 0 from rfl, iLt (by omega) (by omega) (by omega) (by omega)] at q
    omega
  exact ⟨_, x1, ⟨hX, hs.2⟩, ⟨_, _, x3 c⟩, ht, hW⟩
theorem actNo (h : InvX K M A) {cx : Vn → Option (Int32 × Vn)} {r : Int} (e : cx M.1.1 = some (iI r, M.1.1)) (r0 : r < 0) (r1 : -2147483648 ≤ r) (hK : K ≤ K') (hK' : K' ≤ 80000) : ∃ M' : Xm, acX M cx = some (iI r, M') ∧ InvX K' M' A := by
  obtain ⟨hs, ⟨n, H, hH⟩, ht, hw⟩ := h
  obtain ⟨G', x1, x2, -⟩ := actX (a := (A, none, none)) (K := K) hH hs ⟨hw, trivial, trivial⟩ e
  have c : iI r < 0 := by
    rw [show (0 : Int32) = iI 0 from rfl, iLt (by omega) (by omega) (by omega) (by omega)]
    exact r0
  exact ⟨_, x1, ⟨hs.1, hs.2⟩, ⟨_, _, x2 c⟩, ht, hw.mono hK hK'⟩
end CG
