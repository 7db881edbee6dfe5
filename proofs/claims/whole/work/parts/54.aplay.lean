/-! A play: the action. -/
section AP
variable {V : Vn} {A : Ab} {K : Int} {s : Nat → Int32} {R : Rs}
set_option maxHeartbeats 4000000 in
theorem agPlay (hX : RepX V A) (hM : RepM s A) (hW : WF K A) (hK : K + 2 ≤ 80000) (x1 x2 x3 x4 : Int32) : Ag (fX0_letPlay V x1 x2 x3 x4) (fX9_doPlay (s, R) x1 x2 x3 x4) s R (K + 1) := by
  have hN := hW.n
  have hS := hW.s
  have hMt : RepM ((s, R) : Md).1 A := hM
  have hW1 := hW.mono (K' := K + 1) (by omega) (by omega)
  obtain ⟨i, rfl, hi1, hi2⟩ := iX x1
  obtain ⟨e, rfl, he1, he2⟩ := iX x2
  obtain ⟨h, rfl, hh1, hh2⟩ := iX x3
  obtain ⟨w, rfl, hw1, hw2⟩ := iX x4
  have hisB := mIsB hMt hW hi1 hi2
  have hhas := xHasB hX hW hi1 hi2
  by_cases h1 : 0 ≤ i ∧ i < A.nB
  · obtain ⟨h1a, h1b⟩ := h1
    have hb := hW.b h1a h1b
    have hr : 0 ≤ A.B i 0 ∧ A.B i 0 < A.nR := hb.1
    have hR0 := (hW.r hr.1 hr.2).1
    have hR4 := (hW.r hr.1 hr.2).2.2.2.2
    have b0 := xB hX hW (i := i) (c := 0) h1a h1b (by omega) (by omega)
    have r0 := xR hX hW (r := A.B i 0) (c := 0) hr.1 hr.2 (by omega) (by omega)
    have bk := xBooked hX hW h1a h1b
    have xn := xNx hX hW (room := A.B i 0) (after := -1) (by omega) (by omega) (by omega) (by omega)
    have s0 := xset hX (k := 0) (by omega) (by omega)
    have s1 := xset hX (k := 1) (by omega) (by omega)
    have mb0 := mBo hMt (i := i) (c := 0) h1a (by omega) (by omega) (by omega)
    have mb3 := mBo hMt (i := i) (c := 3) h1a (by omega) (by omega) (by omega)
    have mr0 := mRo hMt (r := A.B i 0) (c := 0) hr.1 (by omega) (by omega) (by omega)
    have mn := mNx hMt hW (room := A.B i 0) (after := -1) (by omega) (by omega) (by omega) (by omega)
    have ms0 : s 4 = iI (A.S 0) := hMt.s0
    have ms1 : s 5 = iI (A.S 1) := hMt.s1
    have e4 : (4 : Int).toNat = 4 := rfl
    have e5 : (5 : Int).toNat = 5 := rfl
    by_cases q2 : 0 ≤ e ∧ e ≤ A.R (A.B i 0) 0
    · by_cases q3 : 0 ≤ h ∧ h ≤ 20
      · by_cases q4 : 0 ≤ w ∧ w ≤ 9
        · by_cases q5 : A.B i 3 = 0
          · have hnx := nxU hW (A.B i 0) (-1)
            have hnb : -9 ≤ nx A (A.B i 0) (-1) ∧ nx A (A.B i 0) (-1) ≤ 16 := by
              rcases hnx with ⟨z, -⟩ | ⟨z1, z2, -⟩ <;> omega
            clear hnx
            by_cases q6 : nx A (A.B i 0) (-1) = i
            · have hm := mulb (a := h) (b := A.S 0) (X := 20) (Y := 10) (by omega) (by omega) (by omega) (by omega)
              have hd : 0 ≤ oS A i - A.B i 1 := by unfold oS; omega
              have ha := shr_b hW (c := A.B i 4) (d := oS A i - A.B i 1) hb.2.2.2.2.1.1 hd
              have hsum := (hW.2.2.2.1 i h1a h1b).2.2.2.2.2.2 q5
              obtain ⟨f, hf⟩ : ∃ f : Int, (f = 0 ∧ (e ≤ 0 ∨ A.R (A.B i 0) 0 + A.S 1 < e + h * A.S 0)) ∨ (f = 1 ∧ 0 < e ∧ e + h * A.S 0 ≤ A.R (A.B i 0) 0 + A.S 1) := by
                by_cases z : 0 < e ∧ e + h * A.S 0 ≤ A.R (A.B i 0) 0 + A.S 1
                · exact ⟨1, Or.inr ⟨rfl, z.1, z.2⟩⟩
                · exact ⟨0, Or.inl ⟨rfl, by omega⟩⟩
              obtain ⟨g, hg⟩ : ∃ g : Int, (g = 0 ∧ (e ≤ 0 ∨ e + h * A.S 0 ≤ A.R (A.B i 0) 0)) ∨ (g = 1 ∧ 0 < e ∧ A.R (A.B i 0) 0 < e + h * A.S 0) := by
                by_cases z : 0 < e ∧ A.R (A.B i 0) 0 < e + h * A.S 0
                · exact ⟨1, Or.inr ⟨rfl, z.1, z.2⟩⟩
                · exact ⟨0, Or.inl ⟨rfl, by omega⟩⟩
              have fin : ∀ n : Int, 0 ≤ n → n ≤ 200 → ∃ (V' : Vn) (s' : Nat → Int32) (A' : Ab), fX0_letPlay_j146 V (iI i) (iI e) (iI h) (iI w) (iI (A.B i 0)) (iI (A.R (A.B i 0) 0)) (iI (A.R (A.B i 0) 0 + A.S 1)) (iI (e + h * A.S 0)) (iI n) = some (iI n, V') ∧ fX9_doPlay_j129 (s, R) (iI i) (iI e) (iI h) (iI w) (iI (A.B i 0)) (iI (A.R (A.B i 0) 0)) (iI (A.R (A.B i 0) 0 + A.S 1)) (iI (e + h * A.S 0)) (iI n) = some (iI n, (s', R)) ∧ RepX V' A' ∧ RepM s' A' ∧ WF (K + 1 + 1) A' ∧ ∀ j : Nat, 517 ≤ j → s' j = s j := by
                intro n n0 n1
                obtain ⟨V', g1, g2⟩ := playX hX hW hK (f := f) (h := h) (n := n) (g := g) (i := i) (e := e) (w := w) (x6 := A.R (A.B i 0) 0) (x7 := A.R (A.B i 0) 0 + A.S 1) (x8 := e + h * A.S 0) h1a h1b q5 q3 ⟨n0, n1⟩ q4 (by omega) (by omega) (by omega) (by omega) hf hg ha
                obtain ⟨s', f1, f2, f3⟩ := playM (R := R) hM hW hK (f := f) (h := h) (n := n) (g := g) (i := i) (e := e) (w := w) (x6 := A.R (A.B i 0) 0) (x7 := A.R (A.B i 0) 0 + A.S 1) (x8 := e + h * A.S 0) h1a h1b q5 q3 ⟨n0, n1⟩ q4 (by omega) (by omega) (by omega) (by omega) hf hg ha
                have hO := wfOcc hW (by omega) (f := f) (h := h) (n := n) (g := g) (w := w) h1a h1b q5 (by omega) q3 ⟨n0, n1⟩ (by omega) q4
                have z5 : (occ (cts A (A.B i 0) f h n g) i n w).B i 5 = A.B i 5 := by
                  show up2 (up2 (up2 A.B i 3 1) i 7 _) i 8 n i 5 = _
                  rw [up2_n _ _ (by omega), up2_n _ _ (by omega), up2_n _ _ (by omega)]
                have z3 : (occ (cts A (A.B i 0) f h n g) i n w).B i 3 = 1 := by
                  show up2 (up2 (up2 A.B i 3 1) i 7 _) i 8 n i 3 = _
                  rw [up2_n _ _ (by omega), up2_n _ _ (by omega), up2_s]
                have hWf := (rfA_pre hO (by omega) (i := i) (a := shr A (A.B i 4) (oS A i - A.B i 1)) h1a h1b (by rw [z3]; omega) ha.1 (by omega) (by rw [z5]; show _ ≤ A.B i 5 + rsum A i; omega)).2.2.2
                exact ⟨V', s', _, g1, f1, g2, f2, hWf, f3⟩
              clear hf hg ha hsum hd
              obtain ⟨q2a, q2b⟩ := q2
              obtain ⟨q3a, q3b⟩ := q3
              obtain ⟨q4a, q4b⟩ := q4
              by_cases c : e = 0
              · obtain ⟨V', s', A', g1, f1, g2⟩ := fin (A.R (A.B i 0) 0) (by omega) (by omega)
                refine ⟨iI (A.R (A.B i 0) 0), V', s', A', ?_, ?_, g2⟩
                · clear f1 g2 fin mb0 mb3 mr0 mn hisB hX hM hMt hW hW1
                  rw [← g1]
                  simp (disch := omega) only [nmD, bdS, b2S, lit32, iA, iS, iM, iN, iLt, iLe, iE, zlT, zlF, zleT, zleF, zeT, zeF, RdI, WrI, DvI, jmaxI, jminI, jabsI, bI0, Zb0, Zb1, ZbI, ↓reduceIte, not_true_eq_false, not_false_eq_true, ite_not, and_true, true_and, and_false, false_and, and_self, fX0_letPlay, b0, hhas, r0, xIn, bk, xn, q6, s0, s1]
                · clear g1 g2 fin b0 r0 bk xn hhas hX hM hMt hW hW1
                  rw [← f1]
                  simp (disch := omega) only [nmD, bdS, b2S, lit32, iA, iS, iM, iN, iLt, iLe, iE, zlT, zlF, zleT, zleF, zeT, zeF, RdI, WrI, DvI, jmaxI, jminI, jabsI, bI0, Zb0, Zb1, ZbI, ↓reduceIte, not_true_eq_false, not_false_eq_true, ite_not, and_true, true_and, and_false, false_and, and_self, fX9_doPlay, mb0, hisB, mr0, mIn, mb3, mn, q6, e4, e5, ms0, ms1]
              · obtain ⟨V', s', A', g1, f1, g2⟩ := fin (min (e + h * A.S 0) (A.R (A.B i 0) 0 + A.S 1)) (by omega) (by omega)
                refine ⟨iI (min (e + h * A.S 0) (A.R (A.B i 0) 0 + A.S 1)), V', s', A', ?_, ?_, g2⟩
                · clear f1 g2 fin mb0 mb3 mr0 mn hisB hX hM hMt hW hW1
                  rw [← g1]
                  simp (disch := omega) only [nmD, bdS, b2S, lit32, iA, iS, iM, iN, iLt, iLe, iE, zlT, zlF, zleT, zleF, zeT, zeF, RdI, WrI, DvI, jmaxI, jminI, jabsI, bI0, Zb0, Zb1, ZbI, ↓reduceIte, not_true_eq_false, not_false_eq_true, ite_not, and_true, true_and, and_false, false_and, and_self, fX0_letPlay, b0, hhas, r0, xIn, bk, xn, q6, s0, s1]
                · clear g1 g2 fin b0 r0 bk xn hhas hX hM hMt hW hW1
                  rw [← f1]
                  simp (disch := omega) only [nmD, bdS, b2S, lit32, iA, iS, iM, iN, iLt, iLe, iE, zlT, zlF, zleT, zleF, zeT, zeF, RdI, WrI, DvI, jmaxI, jminI, jabsI, bI0, Zb0, Zb1, ZbI, ↓reduceIte, not_true_eq_false, not_false_eq_true, ite_not, and_true, true_and, and_false, false_and, and_self, fX9_doPlay, mb0, hisB, mr0, mIn, mb3, mn, q6, e4, e5, ms0, ms1, mLess]
            · refine agFail hX hM hW1 (by omega) (r := iI (-2)) ?_ ?_
              · simp (disch := omega) only [nmD, bdS, b2S, lit32, iA, iS, iM, iN, iLt, iLe, iE, zlT, zlF, zleT, zleF, zeT, zeF, RdI, WrI, DvI, jmaxI, jminI, jabsI, bI0, Zb0, Zb1, ZbI, ↓reduceIte, not_true_eq_false, not_false_eq_true, ite_not, and_true, true_and, and_false, false_and, and_self, fX0_letPlay, b0, hhas, r0, xIn, bk, xn]
              · simp (disch := omega) only [nmD, bdS, b2S, lit32, iA, iS, iM, iN, iLt, iLe, iE, zlT, zlF, zleT, zleF, zeT, zeF, RdI, WrI, DvI, jmaxI, jminI, jabsI, bI0, Zb0, Zb1, ZbI, ↓reduceIte, not_true_eq_false, not_false_eq_true, ite_not, and_true, true_and, and_false, false_and, and_self, fX9_doPlay, mb0, hisB, mr0, mIn, mb3, mn]
          · refine agFail hX hM hW1 (by omega) (r := iI (-2)) ?_ ?_
            · simp (disch := omega) only [nmD, bdS, b2S, lit32, iA, iS, iM, iN, iLt, iLe, iE, zlT, zlF, zleT, zleF, zeT, zeF, RdI, WrI, DvI, jmaxI, jminI, jabsI, bI0, Zb0, Zb1, ZbI, ↓reduceIte, not_true_eq_false, not_false_eq_true, ite_not, and_true, true_and, and_false, false_and, and_self, fX0_letPlay, b0, hhas, r0, xIn, bk]
            · simp (disch := omega) only [nmD, bdS, b2S, lit32, iA, iS, iM, iN, iLt, iLe, iE, zlT, zlF, zleT, zleF, zeT, zeF, RdI, WrI, DvI, jmaxI, jminI, jabsI, bI0, Zb0, Zb1, ZbI, ↓reduceIte, not_true_eq_false, not_false_eq_true, ite_not, and_true, true_and, and_false, false_and, and_self, fX9_doPlay, mb0, hisB, mr0, mIn, mb3]
        · refine agFail hX hM hW1 (by omega) (r := iI (-1)) ?_ ?_
          · simp (disch := omega) only [nmD, bdS, b2S, lit32, iA, iS, iM, iN, iLt, iLe, iE, zlT, zlF, zleT, zleF, zeT, zeF, RdI, WrI, DvI, jmaxI, jminI, jabsI, bI0, Zb0, Zb1, ZbI, ↓reduceIte, not_true_eq_false, not_false_eq_true, ite_not, and_true, true_and, and_false, false_and, and_self, fX0_letPlay, b0, hhas, r0, xIn, q4]
          · simp (disch := omega) only [nmD, bdS, b2S, lit32, iA, iS, iM, iN, iLt, iLe, iE, zlT, zlF, zleT, zleF, zeT, zeF, RdI, WrI, DvI, jmaxI, jminI, jabsI, bI0, Zb0, Zb1, ZbI, ↓reduceIte, not_true_eq_false, not_false_eq_true, ite_not, and_true, true_and, and_false, false_and, and_self, fX9_doPlay, mb0, hisB, mr0, mIn, q4]
      · refine agFail hX hM hW1 (by omega) (r := iI (-1)) ?_ ?_
        · simp (disch := omega) only [nmD, bdS, b2S, lit32, iA, iS, iM, iN, iLt, iLe, iE, zlT, zlF, zleT, zleF, zeT, zeF, RdI, WrI, DvI, jmaxI, jminI, jabsI, bI0, Zb0, Zb1, ZbI, ↓reduceIte, not_true_eq_false, not_false_eq_true, ite_not, and_true, true_and, and_false, false_and, and_self, fX0_letPlay, b0, hhas, r0, xIn, q3]
        · simp (disch := omega) only [nmD, bdS, b2S, lit32, iA, iS, iM, iN, iLt, iLe, iE, zlT, zlF, zleT, zleF, zeT, zeF, RdI, WrI, DvI, jmaxI, jminI, jabsI, bI0, Zb0, Zb1, ZbI, ↓reduceIte, not_true_eq_false, not_false_eq_true, ite_not, and_true, true_and, and_false, false_and, and_self, fX9_doPlay, mb0, hisB, mr0, mIn, q3]
    · refine agFail hX hM hW1 (by omega) (r := iI (-1)) ?_ ?_
      · simp (disch := omega) only [nmD, bdS, b2S, lit32, iA, iS, iM, iN, iLt, iLe, iE, zlT, zlF, zleT, zleF, zeT, zeF, RdI, WrI, DvI, jmaxI, jminI, jabsI, bI0, Zb0, Zb1, ZbI, ↓reduceIte, not_true_eq_false, not_false_eq_true, ite_not, and_true, true_and, and_false, false_and, and_self, fX0_letPlay, b0, hhas, r0, xIn, q2]
      · simp (disch := omega) only [nmD, bdS, b2S, lit32, iA, iS, iM, iN, iLt, iLe, iE, zlT, zlF, zleT, zleF, zeT, zeF, RdI, WrI, DvI, jmaxI, jminI, jabsI, bI0, Zb0, Zb1, ZbI, ↓reduceIte, not_true_eq_false, not_false_eq_true, ite_not, and_true, true_and, and_false, false_and, and_self, fX9_doPlay, mb0, hisB, mr0, mIn, q2]
  · have b0 : fX6_cell 160 (iI 16) (iI 10) V.2.1 (iI i) (iI 0) = some (iI 0) := cellO10 hX.uB (by omega) (by omega) (by omega) hi1 hi2
    refine agFail hX hM hW1 (by omega) (r := iI (-1)) ?_ ?_
    · simp (disch := omega) only [nmD, bdS, b2S, lit32, iA, iS, iM, iN, iLt, iLe, iE, zlT, zlF, zleT, zleF, zeT, zeF, RdI, WrI, DvI, jmaxI, jminI, jabsI, bI0, Zb0, Zb1, ZbI, ↓reduceIte, not_true_eq_false, not_false_eq_true, ite_not, and_true, true_and, and_false, false_and, and_self, fX0_letPlay, b0, hhas, h1]
    · simp (disch := omega) only [nmD, bdS, b2S, lit32, iA, iS, iM, iN, iLt, iLe, iE, zlT, zlF, zleT, zleF, zeT, zeF, RdI, WrI, DvI, jmaxI, jminI, jabsI, bI0, Zb0, Zb1, ZbI, ↓reduceIte, not_true_eq_false, not_false_eq_true, ite_not, and_true, true_and, and_false, false_and, and_self, fX9_doPlay, hisB, h1]
end AP
