/-! The reference's play up to its refund. -/
section MP
variable {A : Ab} {K : Int} {s : Nat → Int32} {R : Rs}
set_option maxHeartbeats 4000000 in
theorem mCts (hM : RepM s A) (hW : WF K A) (hK : K + 1 ≤ 80000) {f h n g i e w x6 x7 x8 : Int} (h1 : 0 ≤ i) (h2 : i < A.nB) (hh : 0 ≤ h ∧ h ≤ 20) (hn : 0 ≤ n ∧ n ≤ 1000) (hw : 0 ≤ w ∧ w ≤ 9) (he : 0 ≤ e ∧ e ≤ 1000) (y6 : 0 ≤ x6 ∧ x6 ≤ 10000) (y7 : 0 ≤ x7 ∧ x7 ≤ 10000) (y8 : 0 ≤ x8 ∧ x8 ≤ 10000) (hf : (f = 0 ∧ (e ≤ 0 ∨ x7 < x8)) ∨ (f = 1 ∧ 0 < e ∧ x8 ≤ x7)) (hg : (g = 0 ∧ (e ≤ 0 ∨ x8 ≤ x6)) ∨ (g = 1 ∧ 0 < e ∧ x6 < x8)) : ∃ sc : Nat → Int32, RepM sc (occ (cts A (A.B i 0) f h n g) i n w) ∧ (∀ j : Nat, 517 ≤ j → sc j = s j) ∧ fX9_doPlay_j129 (s, R) (iI i) (iI e) (iI h) (iI w) (iI (A.B i 0)) (iI x6) (iI x7) (iI x8) (iI n) = (fX9_shareOf (sc, R) (iI (A.B i 4)) (iI (oS A i - A.B i 1))).bind fun r47 => (fX9_refunds (sc, R) (iI i) r47).bind fun M48 => some (iI n, M48) := by
  have hN := hW.n
  have hS := hW.s
  have hl := hW.l16
  have hr : 0 ≤ A.B i 0 ∧ A.B i 0 < A.nR := (hW.2.2.2.1 i h1 h2).1
  have hp : 0 ≤ A.B i 1 ∧ A.B i 1 ≤ 720 := (hW.2.2.2.1 i h1 h2).2.1
  have hR4 := (hW.2.2.1 _ hr.1 hr.2).2.2.2.2 4 (by omega) (by omega)
  have hR9 := (hW.2.2.1 _ hr.1 hr.2).2.2.2.2 9 (by omega) (by omega)
  have hR1 := (hW.2.2.1 _ hr.1 hr.2).2.1
  have hMt : RepM ((s, R) : Md).1 A := hM
  have b1 := mBo hMt (i := i) (c := 1) h1 (by omega) (by omega) (by omega)
  have r4 := mRo hMt (r := A.B i 0) (c := 4) hr.1 (by omega) (by omega) (by omega)
  have r1 := mRo hMt (r := A.B i 0) (c := 1) hr.1 (by omega) (by omega) (by omega)
  have hs2 : s 6 = iI (A.S 2) := hMt.s2
  have e6 : (6 : Int).toNat = 6 := rfl
  have eo : max (A.B i 1) (A.R (A.B i 0) 4) = oS A i := rfl
  have eE : oS A i + n + A.R (A.B i 0) 1 + w * A.S 2 = oE A i n w := Int.add_assoc _ _ _
  have z4 := RepM.setR hM hl.1 hl.2 (r := A.B i 0) (c := 4) (v := oE A i n w) hr.1 (by omega) (by omega) (by omega)
  obtain ⟨s5, k5, z5, t5⟩ := mBump (R := R) z4 hl (r := A.B i 0) (c := 5) (x := 1) hr.1 (by omega) (by omega) (by omega)
  obtain ⟨s6, k6, z6, t6⟩ := mBump (R := R) z5 hl (r := A.B i 0) (c := 6) (x := f) hr.1 (by omega) (by omega) (by omega)
  obtain ⟨s7, k7, z7, t7⟩ := mBump (R := R) z6 hl (r := A.B i 0) (c := 7) (x := h) hr.1 (by omega) (by omega) (by omega)
  obtain ⟨s8, k8, z8, t8⟩ := mBump (R := R) z7 hl (r := A.B i 0) (c := 8) (x := n) hr.1 (by omega) (by omega) (by omega)
  obtain ⟨s10, k10, z10, t10⟩ := mBump (R := R) z8 hl (r := A.B i 0) (c := 10) (x := g) hr.1 (by omega) (by omega) (by omega)
  have z10 : RepM s10 (cts (A.setR (A.B i 0) 4 (oE A i n w)) (A.B i 0) f h n g) := z10
  have r9 := mRo (M := (s10, R)) z10 (r := A.B i 0) (c := 9) hr.1 (by omega) (by omega) (by omega)
  rw [cts_R _ _ _ _ _ _ (by omega), show (A.setR (A.B i 0) 4 (oE A i n w)).R (A.B i 0) 9 = A.R (A.B i 0) 9 from up2_n _ _ (by omega)] at r9
  have z9 := RepM.setR z10 hl.1 hl.2 (r := A.B i 0) (c := 9) (v := max (oS A i - A.B i 1) (A.R (A.B i 0) 9)) hr.1 (by omega) (by omega) (by omega)
  have l3 := mLays (R := R) (x := iI 1) z9 h1 (by omega) (c := 3) (by omega) (by omega)
  have v3 := RepM.setB z9 hl.1 hl.2 (i := i) (c := 3) (v := 1) h1 (by omega) (by omega) (by omega)
  have l7 := mLays (R := R) (x := iI (oS A i)) v3 h1 (by omega) (c := 7) (by omega) (by omega)
  have v7 := RepM.setB v3 hl.1 hl.2 (i := i) (c := 7) (v := oS A i) h1 (by omega) (by omega) (by omega)
  have l8 := mLays (R := R) (x := iI n) v7 h1 (by omega) (c := 8) (by omega) (by omega)
  have v8 := RepM.setB v7 hl.1 hl.2 (i := i) (c := 8) (v := n) h1 (by omega) (by omega) (by omega)
  have b4 := mBo (M := (upd (upd (upd (upd s10 (9 + 11 * A.B i 0 + 9).toNat (iI (max (oS A i - A.B i 1) (A.R (A.B i 0) 9)))) (53 + 9 * i + 3).toNat (iI 1)) (53 + 9 * i + 7).toNat (iI (oS A i))) (53 + 9 * i + 8).toNat (iI n), R)) v8 (i := i) (c := 4) h1 (by omega) (by omega) (by omega)
  rw [show (((((cts (A.setR (A.B i 0) 4 (oE A i n w)) (A.B i 0) f h n g).setR (A.B i 0) 9 (max (oS A i - A.B i 1) (A.R (A.B i 0) 9))).setB i 3 1).setB i 7 (oS A i)).setB i 8 n).B i 4 = A.B i 4 by
    show up2 (up2 (up2 A.B i 3 1) i 7 (oS A i)) i 8 n i 4 = _
    rw [up2_n _ _ (by omega), up2_n _ _ (by omega), up2_n _ _ (by omega)]] at b4
  have o1 : 0 ≤ oS A i ∧ oS A i ≤ 161000000 := by unfold oS; omega
  have em : max (A.R (A.B i 0) 9) (oS A i - A.B i 1) = max (oS A i - A.B i 1) (A.R (A.B i 0) 9) := by omega
  refine ⟨_, by rw [occ_cts]; exact v8, fun j hj => ?_, ?_⟩
  · rw [ud_n (by omega), ud_n (by omega), ud_n (by omega), ud_n (by omega), t10 j hj, t8 j hj, t7 j hj, t6 j hj, t5 j hj, ud_n (by omega)]
  · clear z4 z5 z6 z7 z8 z9 z10 t5 t6 t7 t8 t10 v3 v7 v8 hl hM hMt hW
    rcases hf with ⟨rfl, c1⟩ | ⟨rfl, c1, c2⟩
    · rcases hg with ⟨rfl, d1⟩ | ⟨rfl, d1, d2⟩
      · by_cases c : e ≤ 0
        · simp (disch := omega) only [nmD, bdS, b2S, lit32, iA, iS, iM, iN, iLt, iLe, iE, zlT, zlF, zleT, zleF, zeT, zeF, RdI, WrI, DvI, jmaxI, jminI, jabsI, bI0, Zb0, Zb1, ZbI, ↓reduceIte, not_true_eq_false, not_false_eq_true, ite_not, and_true, true_and, and_false, false_and, and_self, fX9_doPlay_j129, fX9_doPlay_j227, fX9_doPlay_j228, fX9_doPlay_j270, fX9_doPlay_j271, b1, r4, r1, mGreat, e6, hs2, eo, eE, k5, k6, k7, k8, k10, r9, em, l3, l7, l8, b4]
        · have c1 : x7 < x8 := by omega
          have d1 : x8 ≤ x6 := by omega
          simp (disch := omega) only [nmD, bdS, b2S, lit32, iA, iS, iM, iN, iLt, iLe, iE, zlT, zlF, zleT, zleF, zeT, zeF, RdI, WrI, DvI, jmaxI, jminI, jabsI, bI0, Zb0, Zb1, ZbI, ↓reduceIte, not_true_eq_false, not_false_eq_true, ite_not, and_true, true_and, and_false, false_and, and_self, fX9_doPlay_j129, fX9_doPlay_j227, fX9_doPlay_j228, fX9_doPlay_j270, fX9_doPlay_j271, b1, r4, r1, mGreat, e6, hs2, eo, eE, k5, k6, k7, k8, k10, r9, em, l3, l7, l8, b4]
      · have c1 : x7 < x8 := by omega
        simp (disch := omega) only [nmD, bdS, b2S, lit32, iA, iS, iM, iN, iLt, iLe, iE, zlT, zlF, zleT, zleF, zeT, zeF, RdI, WrI, DvI, jmaxI, jminI, jabsI, bI0, Zb0, Zb1, ZbI, ↓reduceIte, not_true_eq_false, not_false_eq_true, ite_not, and_true, true_and, and_false, false_and, and_self, fX9_doPlay_j129, fX9_doPlay_j227, fX9_doPlay_j228, fX9_doPlay_j270, fX9_doPlay_j271, b1, r4, r1, mGreat, e6, hs2, eo, eE, k5, k6, k7, k8, k10, r9, em, l3, l7, l8, b4]
    · rcases hg with ⟨rfl, d1⟩ | ⟨rfl, d1, d2⟩
      · have d1 : x8 ≤ x6 := by omega
        simp (disch := omega) only [nmD, bdS, b2S, lit32, iA, iS, iM, iN, iLt, iLe, iE, zlT, zlF, zleT, zleF, zeT, zeF, RdI, WrI, DvI, jmaxI, jminI, jabsI, bI0, Zb0, Zb1, ZbI, ↓reduceIte, not_true_eq_false, not_false_eq_true, ite_not, and_true, true_and, and_false, false_and, and_self, fX9_doPlay_j129, fX9_doPlay_j227, fX9_doPlay_j228, fX9_doPlay_j270, fX9_doPlay_j271, b1, r4, r1, mGreat, e6, hs2, eo, eE, k5, k6, k7, k8, k10, r9, em, l3, l7, l8, b4]
      · simp (disch := omega) only [nmD, bdS, b2S, lit32, iA, iS, iM, iN, iLt, iLe, iE, zlT, zlF, zleT, zleF, zeT, zeF, RdI, WrI, DvI, jmaxI, jminI, jabsI, bI0, Zb0, Zb1, ZbI, ↓reduceIte, not_true_eq_false, not_false_eq_true, ite_not, and_true, true_and, and_false, false_and, and_self, fX9_doPlay_j129, fX9_doPlay_j227, fX9_doPlay_j228, fX9_doPlay_j270, fX9_doPlay_j271, b1, r4, r1, mGreat, e6, hs2, eo, eE, k5, k6, k7, k8, k10, r9, em, l3, l7, l8, b4]
end MP
