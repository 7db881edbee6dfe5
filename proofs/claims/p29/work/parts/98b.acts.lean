/-! One step of the law, whole. -/
section AC5
variable {N : XLm} {A : Ab} {K G : Int}
theorem aPlay1700 (h : InvX K N.1 A) (hL : RepL N.2 A G) (hG : 0 ≤ G ∧ G ≤ 8 * K) (hm : Sma A) (hM : MI A) (hK : K + 2 ≤ 400) {k e ht w : Int} (hk : 0 ≤ k ∧ k < A.nB) (q2 : 0 ≤ e ∧ e ≤ A.R (A.B k 0) 0) (q3 : 0 ≤ ht ∧ ht ≤ 20) (q4 : 0 ≤ w ∧ w ≤ 9) : Go K (fL_acts_j1700 N (iI (A.B k 0)) (iI e) (iI ht) (iI w) (iI k)) := by
  have hn := h.W.n
  have hb := h.W.b hk.1 hk.2
  have hnx := lNext hL h.W hm (room := A.B k 0) (fr := 0) (by omega) (by omega)
  have hu := nxU h.W (A.B k 0) (-1)
  have enl : nl A (A.B k 0) 0 = if nx A (A.B k 0) (-1) = -9 then -1 else nx A (A.B k 0) (-1) := rfl
  have hnb : -9 ≤ nx A (A.B k 0) (-1) ∧ nx A (A.B k 0) (-1) ≤ 16 := by
    rcases hu with ⟨z, -⟩ | ⟨z1, z2, -⟩ <;> omega
  by_cases c : nx A (A.B k 0) (-1) = k
  · have c3 : A.B k 3 = 0 := by
      rcases hu with ⟨z, -⟩ | ⟨z1, z2, z3, -⟩
      · omega
      · rw [c] at z3
        exact z3.2.1
    have en : nl A (A.B k 0) 0 = k := by rw [enl, if_neg (by omega)]; exact c
    rw [en] at hnx
    have q := aPlay1739 h hL hG hm hM hK hk q2 q3 q4 c3 c
    have e2 : fL_acts_j1700 N (iI (A.B k 0)) (iI e) (iI ht) (iI w) (iI k) = fL_acts_j1739 N (iI (A.B k 0)) (iI k) (iI e) (iI ht) (iI w) := by
      clear q hu enl en h hL hM hm hb
      simp (disch := omega) only [MoI, nmD, bdS, b2S, lit32, iA, iS, iM, iN, iLt, iLe, iE, zlT, zlF, zleT, zleF, zeT, zeF, RdI, WrI, DvI, jmaxI, jminI, jabsI, bI0, Zb0, Zb1, ZbI, ↓reduceIte, not_true_eq_false, not_false_eq_true, ite_not, and_true, true_and, and_false, false_and, and_self, fL_acts_j1700, hnx]
    rw [e2]
    exact q
  · have en : nl A (A.B k 0) 0 ≠ k ∧ -1 ≤ nl A (A.B k 0) 0 ∧ nl A (A.B k 0) 0 ≤ 16 := by
      rw [enl]
      rcases hu with ⟨z, -⟩ | ⟨z1, z2, -⟩
      · rw [if_pos z]; omega
      · rw [if_neg (by omega)]; omega
    obtain ⟨M1, e1, h1⟩ := actNo (K' := K + 2) h (cx := fun V => fX0_letPlay V (iI k) (iI e) (iI ht) (iI w)) (cPlayN h.X h.W hk q2 q3 q4 c) (by omega) (by omega) (by omega) (by omega)
    have e1 : fX8_play N.1 (iI k) (iI e) (iI ht) (iI w) = some (iI (-2), M1) := e1
    refine ⟨(M1, N.2), ?_, A, G, h1, hL, by omega, hm, hM⟩
    obtain ⟨en1, en2, en3⟩ := en
    have en4 : nl A (A.B k 0) 0 < k ∨ k < nl A (A.B k 0) 0 := by omega
    clear hu enl h1 h hL hM hm hb en1
    simp (disch := omega) only [MoI, nmD, bdS, b2S, lit32, iA, iS, iM, iN, iLt, iLe, iE, zlT, zlF, zleT, zleF, zeT, zeF, RdI, WrI, DvI, jmaxI, jminI, jabsI, bI0, Zb0, Zb1, ZbI, ↓reduceIte, not_true_eq_false, not_false_eq_true, ite_not, and_true, true_and, and_false, false_and, and_self, fL_acts_j1700, hnx, e1]
theorem aPlay1643 (h : InvX K N.1 A) (hL : RepL N.2 A G) (hG : 0 ≤ G ∧ G ≤ 8 * K) (hm : Sma A) (hM : MI A) (hK : K + 2 ≤ 400) {k x way y w : Int} (hx : 0 ≤ x ∧ x < 10000000) (hw : 0 ≤ way ∧ way < 26) (hk : 0 ≤ k ∧ k < A.nB) (hy : 0 ≤ y ∧ y < 10000000) (hw2 : 1 ≤ w ∧ w ≤ A.R (A.B k 0) 0 + 1) : Go K (fL_acts_j1643 N (iI x) (iI way) (iI (A.B k 0)) (iI k) (iI y) (iI w)) := by
  have hn := h.W.n
  have hb := h.W.b hk.1 hk.2
  have hR := h.W.r hb.1.1 hb.1.2
  have d1 := md_b y (b := w) (by omega)
  have d2 := md_b (x / 7) (b := 21) (by omega)
  have d3 := md_b (x / 147) (b := 10) (by omega)
  have hnx := lNext hL h.W hm (room := A.B k 0) (fr := 0) (by omega) (by omega)
  have hu := nxU h.W (A.B k 0) (-1)
  have enl : nl A (A.B k 0) 0 = if nx A (A.B k 0) (-1) = -9 then -1 else nx A (A.B k 0) (-1) := rfl
  have q0 := aPlay1700 h hL hG hm hM hK (k := k) (e := y % w) (ht := x / 7 % 21) (w := x / 147 % 10) hk (by omega) (by omega) (by omega)
  obtain ⟨hx1, hx2⟩ := hx
  obtain ⟨hy1, hy2⟩ := hy
  obtain ⟨hw1, hw1'⟩ := hw
  by_cases c : 24 ≤ way
  · have e : fL_acts_j1643 N (iI x) (iI way) (iI (A.B k 0)) (iI k) (iI y) (iI w) = fL_acts_j1700 N (iI (A.B k 0)) (iI (y % w)) (iI (x / 7 % 21)) (iI (x / 147 % 10)) (iI k) := by
      clear q0 hu enl h hL hM hm hb
      simp (disch := omega) only [MoI, nmD, bdS, b2S, lit32, iA, iS, iM, iN, iLt, iLe, iE, zlT, zlF, zleT, zleF, zeT, zeF, RdI, WrI, DvI, jmaxI, jminI, jabsI, bI0, Zb0, Zb1, ZbI, ↓reduceIte, not_true_eq_false, not_false_eq_true, ite_not, and_true, true_and, and_false, false_and, and_self, fL_acts_j1643, fL_acts_j1698]
    rw [e]
    exact q0
  · rcases hu with ⟨z, -⟩ | ⟨z1, z2, z3, -⟩
    · rw [z, if_pos rfl] at enl
      rw [enl] at hnx
      have e : fL_acts_j1643 N (iI x) (iI way) (iI (A.B k 0)) (iI k) (iI y) (iI w) = fL_acts_j1700 N (iI (A.B k 0)) (iI (y % w)) (iI (x / 7 % 21)) (iI (x / 147 % 10)) (iI k) := by
        clear q0 enl h hL hM hm hb
        simp (disch := omega) only [MoI, nmD, bdS, b2S, lit32, iA, iS, iM, iN, iLt, iLe, iE, zlT, zlF, zleT, zleF, zeT, zeF, RdI, WrI, DvI, jmaxI, jminI, jabsI, bI0, Zb0, Zb1, ZbI, ↓reduceIte, not_true_eq_false, not_false_eq_true, ite_not, and_true, true_and, and_false, false_and, and_self, fL_acts_j1643, fL_acts_j1698, hnx]
      rw [e]
      exact q0
    · rw [if_neg (by omega)] at enl
      rw [enl] at hnx
      have hb2 := h.W.b z1 z2
      have eB : A.B (nx A (A.B k 0) (-1)) 0 = A.B k 0 := z3.1
      have q1 := aPlay1700 h hL hG hm hM hK (k := nx A (A.B k 0) (-1)) (e := y % w) (ht := x / 7 % 21) (w := x / 147 % 10) ⟨z1, z2⟩ (by rw [eB]; omega) (by omega) (by omega)
      rw [eB] at q1
      have e : fL_acts_j1643 N (iI x) (iI way) (iI (A.B k 0)) (iI k) (iI y) (iI w) = fL_acts_j1700 N (iI (A.B k 0)) (iI (y % w)) (iI (x / 7 % 21)) (iI (x / 147 % 10)) (iI (nx A (A.B k 0) (-1))) := by
        clear q0 q1 enl h hL hM hm hb hb2 z3
        simp (disch := omega) only [MoI, nmD, bdS, b2S, lit32, iA, iS, iM, iN, iLt, iLe, iE, zlT, zlF, zleT, zleF, zeT, zeF, RdI, WrI, DvI, jmaxI, jminI, jabsI, bI0, Zb0, Zb1, ZbI, ↓reduceIte, not_true_eq_false, not_false_eq_true, ite_not, and_true, true_and, and_false, false_and, and_self, fL_acts_j1643, fL_acts_j1698, hnx]
      rw [e]
      exact q1
theorem aPlay (h : InvX K N.1 A) (hL : RepL N.2 A G) (hG : 0 ≤ G ∧ G ≤ 8 * K) (hm : Sma A) (hM : MI A) (hK : K + 2 ≤ 400) {k x way : Int} (hx : 0 ≤ x ∧ x < 10000000) (hw : 0 ≤ way ∧ way < 26) (hk : 0 ≤ k ∧ k < A.nB) : Go K (fL_acts_j1617 N (iI x) (iI way) (iI (A.B k 0)) (iI k)) := by
  have hn := h.W.n
  have hb := h.W.b hk.1 hk.2
  have hR := h.W.r hb.1.1 hb.1.2
  have r0 := hL.R0 hb.1.1 hb.1.2
  have dd := md_b x (b := 3) (by omega)
  have key := fun w hw2 => aPlay1643 h hL hG hm hM hK (k := k) (x := x) (way := way) (y := x / 21) (w := w) hx hw hk (by omega) hw2
  obtain ⟨hx1, hx2⟩ := hx
  obtain ⟨hw1, hw1'⟩ := hw
  obtain ⟨m1, m2, m3⟩ := id hm
  have hr1 := hb.1.1
  have hr2 := hb.1.2
  by_cases c : x % 3 = 0
  · have q := key (A.R (A.B k 0) 0 + 1) (by omega)
    have e : fL_acts_j1617 N (iI x) (iI way) (iI (A.B k 0)) (iI k) = fL_acts_j1643 N (iI x) (iI way) (iI (A.B k 0)) (iI k) (iI (x / 21)) (iI (A.R (A.B k 0) 0 + 1)) := by
      clear q key h hL hM hm hb
      simp (disch := omega) only [MoI, nmD, bdS, b2S, lit32, iA, iS, iM, iN, iLt, iLe, iE, zlT, zlF, zleT, zleF, zeT, zeF, RdI, WrI, DvI, jmaxI, jminI, jabsI, bI0, Zb0, Zb1, ZbI, ↓reduceIte, not_true_eq_false, not_false_eq_true, ite_not, and_true, true_and, and_false, false_and, and_self, fL_acts_j1617, r0]
    rw [e]
    exact q
  · have q := key 20 (by omega)
    have e : fL_acts_j1617 N (iI x) (iI way) (iI (A.B k 0)) (iI k) = fL_acts_j1643 N (iI x) (iI way) (iI (A.B k 0)) (iI k) (iI (x / 21)) (iI 20) := by
      clear q key h hL hM hm hb
      simp (disch := omega) only [MoI, nmD, bdS, b2S, lit32, iA, iS, iM, iN, iLt, iLe, iE, zlT, zlF, zleT, zleF, zeT, zeF, RdI, WrI, DvI, jmaxI, jminI, jabsI, bI0, Zb0, Zb1, ZbI, ↓reduceIte, not_true_eq_false, not_false_eq_true, ite_not, and_true, true_and, and_false, false_and, and_self, fL_acts_j1617, r0]
    rw [e]
    exact q
theorem a985 (h : InvX K N.1 A) (hL : RepL N.2 A G) (hG : 0 ≤ G ∧ G ≤ 8 * K) (hm : Sma A) (hM : MI A) (hK : K + 2 ≤ 400) {x way : Int} (hx : 0 ≤ x ∧ x < 10000000) (hw : 15 ≤ way ∧ way < 26) (hB : 0 < A.nB) : Go K (fL_acts_j985 N (iI x) (iI way)) := by
  have hn := h.W.n
  have g1 := hL.g1
  have d1 := md_b (x / 3) (b := A.nB) hB
  have e0 : fL_acts_j985 N (iI x) (iI way) = fL_acts_j1013 N (iI x) (iI way) (iI (x / 3 % A.nB)) (iI (if A.B (x / 3 % A.nB) 3 = 0 then 1 else 0)) := by
    have b3 := hL.B (i := x / 3 % A.nB) (c := 3) d1.1 d1.2 (by omega) (by omega)
    have hb := h.W.b d1.1 d1.2
    obtain ⟨m1, m2, m3⟩ := hm
    obtain ⟨hx1, hx2⟩ := hx
    by_cases c : A.B (x / 3 % A.nB) 3 = 0
    · rw [if_pos c]
      clear h hL hM
      simp (disch := omega) only [MoI, nmD, bdS, b2S, lit32, iA, iS, iM, iN, iLt, iLe, iE, zlT, zlF, zleT, zleF, zeT, zeF, RdI, WrI, DvI, jmaxI, jminI, jabsI, bI0, Zb0, Zb1, ZbI, ↓reduceIte, not_true_eq_false, not_false_eq_true, ite_not, and_true, true_and, and_false, false_and, and_self, fL_acts_j985, g1, b3]
    · rw [if_neg c]
      clear h hL hM
      simp (disch := omega) only [MoI, nmD, bdS, b2S, lit32, iA, iS, iM, iN, iLt, iLe, iE, zlT, zlF, zleT, zleF, zeT, zeF, RdI, WrI, DvI, jmaxI, jminI, jabsI, bI0, Zb0, Zb1, ZbI, ↓reduceIte, not_true_eq_false, not_false_eq_true, ite_not, and_true, true_and, and_false, false_and, and_self, fL_acts_j985, g1, b3]
  rw [e0]
  clear e0
  generalize x / 3 % A.nB = k at d1 ⊢
  have hb := h.W.b d1.1 d1.2
  have b0 := hL.B0 d1.1 d1.2
  have s01 : (if A.B k 3 = 0 then (1 : Int) else 0) = 0 ∨ (if A.B k 3 = 0 then (1 : Int) else 0) = 1 := by split <;> omega
  have qm := aMove h hL hG hm hM hK hx d1
  have qc := aCancel h hL hG hm hM hK d1
  have qj := aMerge h hL hG hm hM hK hx d1
  have qp := aPlay h hL hG hm hM hK (way := way) hx (by omega) d1
  obtain ⟨m1, m2, m3⟩ := id hm
  obtain ⟨hw1, hw2⟩ := hw
  obtain ⟨d1a, d1b⟩ := d1
  generalize (if A.B k 3 = 0 then (1 : Int) else 0) = b at *
  by_cases c : way = 15
  · have e : fL_acts_j1013 N (iI x) (iI way) (iI k) (iI b) = fL_acts_j1032 N (iI x) (iI (A.B k 0)) (iI k) (iI b) := by
      clear qm qc qj qp h hL hM hm hb
      simp (disch := omega) only [MoI, nmD, bdS, b2S, lit32, iA, iS, iM, iN, iLt, iLe, iE, zlT, zlF, zleT, zleF, zeT, zeF, RdI, WrI, DvI, jmaxI, jminI, jabsI, bI0, Zb0, Zb1, ZbI, ↓reduceIte, not_true_eq_false, not_false_eq_true, ite_not, and_true, true_and, and_false, false_and, and_self, fL_acts_j1013, b0]
    rw [e]
    exact qm
  · by_cases c2 : way = 16
    · have e : fL_acts_j1013 N (iI x) (iI way) (iI k) (iI b) = fL_acts_j1133 N (iI k) (iI b) := by
        clear qm qc qj qp h hL hM hm hb
        simp (disch := omega) only [MoI, nmD, bdS, b2S, lit32, iA, iS, iM, iN, iLt, iLe, iE, zlT, zlF, zleT, zleF, zeT, zeF, RdI, WrI, DvI, jmaxI, jminI, jabsI, bI0, Zb0, Zb1, ZbI, ↓reduceIte, not_true_eq_false, not_false_eq_true, ite_not, and_true, true_and, and_false, false_and, and_self, fL_acts_j1013, fL_acts_j1126, b0]
      rw [e]
      exact qc
    · by_cases c3 : 20 ≤ way
      · have e : fL_acts_j1013 N (iI x) (iI way) (iI k) (iI b) = fL_acts_j1617 N (iI x) (iI way) (iI (A.B k 0)) (iI k) := by
          clear qm qc qj qp h hL hM hm hb
          simp (disch := omega) only [MoI, nmD, bdS, b2S, lit32, iA, iS, iM, iN, iLt, iLe, iE, zlT, zlF, zleT, zleF, zeT, zeF, RdI, WrI, DvI, jmaxI, jminI, jabsI, bI0, Zb0, Zb1, ZbI, ↓reduceIte, not_true_eq_false, not_false_eq_true, ite_not, and_true, true_and, and_false, false_and, and_self, fL_acts_j1013, fL_acts_j1126, fL_acts_j1236, b0]
        rw [e]
        exact qp
      · have e : fL_acts_j1013 N (iI x) (iI way) (iI k) (iI b) = fL_acts_j1243 N (iI x) (iI (A.B k 0)) (iI k) (iI b) := by
          clear qm qc qj qp h hL hM hm hb
          simp (disch := omega) only [MoI, nmD, bdS, b2S, lit32, iA, iS, iM, iN, iLt, iLe, iE, zlT, zlF, zleT, zleF, zeT, zeF, RdI, WrI, DvI, jmaxI, jminI, jabsI, bI0, Zb0, Zb1, ZbI, ↓reduceIte, not_true_eq_false, not_false_eq_true, ite_not, and_true, true_and, and_false, false_and, and_self, fL_acts_j1013, fL_acts_j1126, fL_acts_j1236, b0]
        rw [e]
        exact qj
theorem a322 (h : InvX K N.1 A) (hL : RepL N.2 A G) (hG : 0 ≤ G ∧ G ≤ 8 * K) (hm : Sma A) (hM : MI A) (hK : K + 2 ≤ 400) {x way : Int} (hx : 0 ≤ x ∧ x < 10000000) (hw : 4 ≤ way ∧ way < 26) (hR : 0 < A.nR) : Go K (fL_acts_j322 N (iI x) (iI way)) := by
  have hn := h.W.n
  have g0 := hL.g0
  have g1 := hL.g1
  have d1 := md_b x (b := A.nR) hR
  have qb := aBook h hL hG hm hM hK hx d1
  have qp := aPrice h hL hG hm hM hK hx d1
  have qs := aSet h hL hG hm hM hK hx
  have qe := fun z => aEmpty h hL hG hm hM hK (x := iI x) (w := iI way) z
  have q9 := fun z z2 => a985 h hL hG hm hM hK (x := x) (way := way) hx z z2
  obtain ⟨m1, m2, m3⟩ := id hm
  obtain ⟨hw1, hw2⟩ := hw
  obtain ⟨hx1, hx2⟩ := hx
  by_cases c : way < 12
  · have e : fL_acts_j322 N (iI x) (iI way) = fL_acts_j337 N (iI x) (iI (x % A.nR)) := by
      clear qb qp qs qe q9 h hL hM hm
      simp (disch := omega) only [MoI, nmD, bdS, b2S, lit32, iA, iS, iM, iN, iLt, iLe, iE, zlT, zlF, zleT, zleF, zeT, zeF, RdI, WrI, DvI, jmaxI, jminI, jabsI, bI0, Zb0, Zb1, ZbI, ↓reduceIte, not_true_eq_false, not_false_eq_true, ite_not, and_true, true_and, and_false, false_and, and_self, fL_acts_j322, g0]
    rw [e]
    exact qb
  · by_cases c2 : way = 12
    · have e : fL_acts_j322 N (iI x) (iI way) = fL_acts_j782 N (iI x) (iI (x % A.nR)) := by
        clear qb qp qs qe q9 h hL hM hm
        simp (disch := omega) only [MoI, nmD, bdS, b2S, lit32, iA, iS, iM, iN, iLt, iLe, iE, zlT, zlF, zleT, zleF, zeT, zeF, RdI, WrI, DvI, jmaxI, jminI, jabsI, bI0, Zb0, Zb1, ZbI, ↓reduceIte, not_true_eq_false, not_false_eq_true, ite_not, and_true, true_and, and_false, false_and, and_self, fL_acts_j322, fL_acts_j775, g0]
      rw [e]
      exact qp
    · by_cases c3 : way < 15
      · have e : fL_acts_j322 N (iI x) (iI way) = fL_acts_j845 N (iI x) := by
          clear qb qp qs qe q9 h hL hM hm
          simp (disch := omega) only [MoI, nmD, bdS, b2S, lit32, iA, iS, iM, iN, iLt, iLe, iE, zlT, zlF, zleT, zleF, zeT, zeF, RdI, WrI, DvI, jmaxI, jminI, jabsI, bI0, Zb0, Zb1, ZbI, ↓reduceIte, not_true_eq_false, not_false_eq_true, ite_not, and_true, true_and, and_false, false_and, and_self, fL_acts_j322, fL_acts_j775, fL_acts_j838, g0]
        rw [e]
        exact qs
      · have e : fL_acts_j322 N (iI x) (iI way) = fL_acts_j932 N (iI x) (iI way) := by
          clear qb qp qs qe q9 h hL hM hm
          simp (disch := omega) only [MoI, nmD, bdS, b2S, lit32, iA, iS, iM, iN, iLt, iLe, iE, zlT, zlF, zleT, zleF, zeT, zeF, RdI, WrI, DvI, jmaxI, jminI, jabsI, bI0, Zb0, Zb1, ZbI, ↓reduceIte, not_true_eq_false, not_false_eq_true, ite_not, and_true, true_and, and_false, false_and, and_self, fL_acts_j322, fL_acts_j775, fL_acts_j838, g0]
        rw [e]
        by_cases c4 : A.nB = 0
        · exact qe c4
        · have q := q9 (by omega) (by omega)
          have e : fL_acts_j932 N (iI x) (iI way) = fL_acts_j985 N (iI x) (iI way) := by
            clear qb qp qs qe q9 q h hL hM hm
            simp (disch := omega) only [MoI, nmD, bdS, b2S, lit32, iA, iS, iM, iN, iLt, iLe, iE, zlT, zlF, zleT, zleF, zeT, zeF, RdI, WrI, DvI, jmaxI, jminI, jabsI, bI0, Zb0, Zb1, ZbI, ↓reduceIte, not_true_eq_false, not_false_eq_true, ite_not, and_true, true_and, and_false, false_and, and_self, fL_acts_j932, g1]
          rw [e]
          exact q
/-- one step: whatever is told, it answers true -/
theorem acts_ok (hI : InvP K N) (hK : K + 2 ≤ 400) (z : Int32) : Go K (fL_acts N z) := by
  obtain ⟨A, G, h, hL, hG, hm, hM⟩ := hI
  have hn := h.W.n
  have g0 := hL.g0
  obtain ⟨x, e1, x0, x1⟩ := lLow (z >>> ((5 : Int32) &&& 31)) (n := 10000000) (by omega) (by omega)
  obtain ⟨way, e2, w0, w1⟩ := lLow z (n := 26) (by omega) (by omega)
  have q32 := aRoom32 h hL hG hm hM hK (x := x) ⟨x0, x1⟩
  have q210 := fun w => aGift210 h hL hG hm hM hK (x := x) ⟨x0, x1⟩ (way := way) w
  have q322 := fun w r => a322 h hL hG hm hM hK (x := x) ⟨x0, x1⟩ (way := way) w r
  have e0 : fL_acts N z = if iI way < iI 2 then fL_acts_j32 N (iI x) else Rd N.2.1 5 (iI 0) fun v48 => if v48 = iI 0 then fL_acts_j32 N (iI x) else fL_acts_j210 N (iI x) (iI way) := by
    unfold fL_acts
    rw [show fL_low (z >>> ((5 : Int32) &&& 31)) 10000000 = some (iI x) from e1, bdS, show fL_low z 26 = some (iI way) from e2, bdS]
    rfl
  rw [e0]
  clear e0 e1 e2
  by_cases c : way < 2
  · have e : (if iI way < iI 2 then fL_acts_j32 N (iI x) else Rd N.2.1 5 (iI 0) fun v48 => if v48 = iI 0 then fL_acts_j32 N (iI x) else fL_acts_j210 N (iI x) (iI way)) = fL_acts_j32 N (iI x) := by
      clear q32 q210 q322 h hL hM hm
      simp (disch := omega) only [MoI, nmD, bdS, b2S, lit32, iA, iS, iM, iN, iLt, iLe, iE, zlT, zlF, zleT, zleF, zeT, zeF, RdI, WrI, DvI, jmaxI, jminI, jabsI, bI0, Zb0, Zb1, ZbI, ↓reduceIte, not_true_eq_false, not_false_eq_true, ite_not, and_true, true_and, and_false, false_and, and_self]
    rw [e]
    exact q32
  · by_cases c2 : A.nR = 0
    · have e : (if iI way < iI 2 then fL_acts_j32 N (iI x) else Rd N.2.1 5 (iI 0) fun v48 => if v48 = iI 0 then fL_acts_j32 N (iI x) else fL_acts_j210 N (iI x) (iI way)) = fL_acts_j32 N (iI x) := by
        clear q32 q210 q322 h hL hM hm
        simp (disch := omega) only [MoI, nmD, bdS, b2S, lit32, iA, iS, iM, iN, iLt, iLe, iE, zlT, zlF, zleT, zleF, zeT, zeF, RdI, WrI, DvI, jmaxI, jminI, jabsI, bI0, Zb0, Zb1, ZbI, ↓reduceIte, not_true_eq_false, not_false_eq_true, ite_not, and_true, true_and, and_false, false_and, and_self, g0]
      rw [e]
      exact q32
    · have e : (if iI way < iI 2 then fL_acts_j32 N (iI x) else Rd N.2.1 5 (iI 0) fun v48 => if v48 = iI 0 then fL_acts_j32 N (iI x) else fL_acts_j210 N (iI x) (iI way)) = fL_acts_j210 N (iI x) (iI way) := by
        clear q32 q210 q322 h hL hM hm
        simp (disch := omega) only [MoI, nmD, bdS, b2S, lit32, iA, iS, iM, iN, iLt, iLe, iE, zlT, zlF, zleT, zleF, zeT, zeF, RdI, WrI, DvI, jmaxI, jminI, jabsI, bI0, Zb0, Zb1, ZbI, ↓reduceIte, not_true_eq_false, not_false_eq_true, ite_not, and_true, true_and, and_false, false_and, and_self, g0]
      rw [e]
      by_cases c3 : way < 4
      · exact q210 ⟨w0, c3⟩
      · have q := q322 (by omega) (by omega)
        have e : fL_acts_j210 N (iI x) (iI way) = fL_acts_j322 N (iI x) (iI way) := by
          clear q q32 q210 q322 h hL hM hm
          simp (disch := omega) only [MoI, nmD, bdS, b2S, lit32, iA, iS, iM, iN, iLt, iLe, iE, zlT, zlF, zleT, zleF, zeT, zeF, RdI, WrI, DvI, jmaxI, jminI, jabsI, bI0, Zb0, Zb1, ZbI, ↓reduceIte, not_true_eq_false, not_false_eq_true, ite_not, and_true, true_and, and_false, false_and, and_self, fL_acts_j210]
        rw [e]
        exact q
end AC5
