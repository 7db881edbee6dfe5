/-! A new row of a table; a new voucher. -/
def Ab.setNV (A : Ab) (n : Int) : Ab := mkA A.R A.B A.V A.S A.rows A.F A.U A.nR A.nB n A.t
section AR
variable {tn : Nat} {cap w u b : Int}
theorem addL (hb : 0 ≤ b) (hw : w < 100) (hput : ∀ (T : Tb) (c : Int), T.1 = iI (u + 1) → 0 ≤ c → c < w → fX6_put tn (iI cap) (iI w) T (iI u) (iI c) (iI 0) = some (T.1, upd T.2 (b + c).toNat (iI 0))) : ∀ (k fu : Nat) (i : Int) (T : Tb), T.1 = iI (u + 1) → 0 ≤ i → i + k = w → k < fu → ∃ g : Nat → Int32, fX6_addRow_l24 tn (iI cap) (iI w) (iI u) fu T (iI i) = some (iI u, (T.1, g)) ∧ (∀ j : Nat, ((j : Int) < b + i ∨ b + w ≤ j) → g j = T.2 j) ∧ ∀ j : Nat, b + i ≤ (j : Int) → (j : Int) < b + w → g j = iI 0 := by
  intro k
  induction k with
  | zero =>
    intro fu i T hT h0 h1 h2
    obtain ⟨fu, rfl⟩ : ∃ q, fu = q + 1 := ⟨fu - 1, by omega⟩
    refine ⟨T.2, ?_, fun j hj => rfl, fun j h3 h4 => by omega⟩
    rw [fX6_addRow_l24_s]
    clear hput
    simp (disch := omega) only [nmD, bdS, b2S, lit32, iA, iS, iM, iN, iLt, iLe, iE, zlT, zlF, zleT, zleF, zeT, zeF, RdI, WrI, DvI, jmaxI, jminI, jabsI, bI0, Zb0, Zb1, ZbI, ↓reduceIte, not_true_eq_false, not_false_eq_true, ite_not, and_true, true_and, and_false, false_and, and_self]
  | succ k ih =>
    intro fu i T hT h0 h1 h2
    obtain ⟨fu, rfl⟩ : ∃ q, fu = q + 1 := ⟨fu - 1, by omega⟩
    obtain ⟨g, g1, g2, g3⟩ := ih fu (i + 1) (T.1, upd T.2 (b + i).toNat (iI 0)) hT (by omega) (by omega) (by omega)
    have e := hput T i hT (by omega) (by omega)
    refine ⟨g, ?_, fun j hj => ?_, fun j h3 h4 => ?_⟩
    · have g1' : fX6_addRow_l24 tn (iI cap) (iI w) (iI u) fu (T.1, upd T.2 (b + i).toNat (iI 0)) (iI (i + 1)) = some (iI u, (T.1, g)) := g1
      rw [fX6_addRow_l24_s, ← g1']
      clear ih hput g1 g2 g3 g1'
      simp (disch := omega) only [nmD, bdS, b2S, lit32, iA, iS, iM, iN, iLt, iLe, iE, zlT, zlF, zleT, zleF, zeT, zeF, RdI, WrI, DvI, jmaxI, jminI, jabsI, bI0, Zb0, Zb1, ZbI, ↓reduceIte, not_true_eq_false, not_false_eq_true, ite_not, and_true, true_and, and_false, false_and, and_self, e]
    · rw [g2 j (by omega)]
      exact ud_n (by omega)
    · by_cases c : (j : Int) = b + i
      · rw [g2 j (by omega)]
        exact ud_e (by omega)
      · exact g3 j (by omega) h4
theorem addI {T : Tb} (hT : T.1 = iI u) (h0 : 0 ≤ u) (h1 : u < cap) (h2 : cap ≤ 16) (hb : 0 ≤ b) (hw0 : 0 ≤ w) (hw : w < 100) (hput : ∀ (T : Tb) (c : Int), T.1 = iI (u + 1) → 0 ≤ c → c < w → fX6_put tn (iI cap) (iI w) T (iI u) (iI c) (iI 0) = some (T.1, upd T.2 (b + c).toNat (iI 0))) : ∃ g : Nat → Int32, fX6_addRow tn (iI cap) (iI w) T = some (iI u, (iI (u + 1), g)) ∧ (∀ j : Nat, ((j : Int) < b ∨ b + w ≤ j) → g j = T.2 j) ∧ ∀ j : Nat, b ≤ (j : Int) → (j : Int) < b + w → g j = iI 0 := by
  obtain ⟨g, g1, g2, g3⟩ := addL hb hw hput w.toNat FU 0 (iI (u + 1), T.2) rfl (by omega) (by omega) (by unfold FU; omega)
  refine ⟨g, ?_, fun j hj => g2 j (by omega), fun j h3 h4 => g3 j (by omega) h4⟩
  have g1' : fX6_addRow_l24 tn (iI cap) (iI w) (iI u) FU (iI (u + 1), T.2) (iI 0) = some (iI u, (iI (u + 1), g)) := g1
  have hf := xFull (n := tn) (w := iI w) (cap := cap) hT (by omega) h0 (by omega) h2
  clear hput g1 g2 g3
  simp (disch := omega) only [nmD, bdS, b2S, lit32, iA, iS, iM, iN, iLt, iLe, iE, zlT, zlF, zleT, zleF, zeT, zeF, RdI, WrI, DvI, jmaxI, jminI, jabsI, bI0, Zb0, Zb1, ZbI, ↓reduceIte, not_true_eq_false, not_false_eq_true, ite_not, and_true, true_and, and_false, false_and, and_self, fX6_addRow, hf, hT, g1']
end AR
section GI
variable {V : Vn} {A : Ab} {K : Int}
def gv (A : Ab) (x : Int) : Ab := (((A.setV A.nV 0 x).setV A.nV 1 x).setT (A.t + x)).setNV (A.nV + 1)
theorem WF.gv (h : WF K A) (hn : A.nV < 8) {x : Int} (h1 : 1 ≤ x) (h2 : x ≤ 500) : WF K (gv A x) := by
  obtain ⟨w1, w2, w3, w4, w5, w6, w7, w8⟩ := h
  have n1 : 0 ≤ A.nV + 1 ∧ A.nV + 1 ≤ 8 := by omega
  refine ⟨⟨w1.1, w1.2.1, w1.2.2.1, w1.2.2.2.1, n1.1, n1.2, w1.2.2.2.2.2.2⟩, w2, w3, w4, fun v v0 v1 => ?_, fun i i0 i1 => ⟨(w6 i i0 i1).1, fun p hp => ?_⟩, w7, w8⟩
  · have v1 : v < A.nV + 1 := v1
    have w0 := w1.2.2.2.2.2.2
    show 0 ≤ up2 (up2 A.V A.nV 0 x) A.nV 1 x v 1 ∧ up2 (up2 A.V A.nV 0 x) A.nV 1 x v 1 ≤ 500 + 2000 * K
    by_cases c : v = A.nV
    · rw [c, up2_s]; omega
    · rw [up2_n _ _ (by omega), up2_n _ _ (by omega)]
      exact w5 v v0 (by omega)
  · obtain ⟨q1, q2, q3, q4⟩ := (w6 i i0 i1).2 p hp
    have : 0 ≤ A.F p ∧ A.F p < A.nV + 1 := by omega
    exact ⟨q1, this, q3, q4⟩
theorem RepX.gv (h : RepX V A) {g : Nat → Int32} {x : Int} (hn : 0 ≤ A.nV) (hg : ∀ j : Nat, ((j : Int) < A.nV * 2 ∨ A.nV * 2 + 2 ≤ j) → g j = V.2.2.1.2 j) : RepX (V.1, V.2.1, (iI (A.nV + 1), upd (upd g (A.nV * 2 + 0).toNat (iI x)) (A.nV * 2 + 1).toNat (iI x)), V.2.2.2.1, V.2.2.2.2.1, iI (A.t + x)) (gv A x) := by
  obtain ⟨h1, h2, h3, h4, h5, hR, hB, hV, hS, hP⟩ := h
  refine ⟨h1, h2, rfl, h4, rfl, hR, hB, fun v c q1 q2 q3 q4 => ?_, hS, hP⟩
  have q2 : v < A.nV + 1 := q2
  show upd (upd g (A.nV * 2 + 0).toNat (iI x)) (A.nV * 2 + 1).toNat (iI x) (v * 2 + c).toNat = iI (up2 (up2 A.V A.nV 0 x) A.nV 1 x v c)
  by_cases e : v = A.nV
  · subst e
    by_cases e1 : c = 1
    · subst e1
      rw [ud_s, up2_s]
    · obtain rfl : c = 0 := by omega
      rw [ud_n (by omega), ud_s, up2_n _ _ (by omega), up2_s]
  · rw [ud_n (by omega), ud_n (by omega), up2_n _ _ (by omega), up2_n _ _ (by omega), hg _ (by omega)]
    exact hV v c q1 (by omega) q3 q4
end GI
