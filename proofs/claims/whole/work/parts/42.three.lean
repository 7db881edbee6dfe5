/-! Actions whose checks the reference does ahead of holding: price, setting, move. -/
/-- both sides refuse alike, or do alike: the reference holds, writes and ends -/
def AgH (V : Vn) (cx : Option (Int32 × Vn)) (mo : Option (Int32 × Md)) (s : Nat → Int32) (R : Rs) (K : Int) : Prop :=
  (∃ r : Int32, r < 0 ∧ cx = some (r, V) ∧ mo = some (r, (s, R))) ∨ ∃ (r : Int) (V' : Vn) (s' : Nat → Int32) (A' : Ab), 0 ≤ r ∧ r ≤ 100000 ∧ cx = some (iI r, V') ∧ RepX V' A' ∧ RepM s' A' ∧ WF (K + 1) A' ∧ (∀ j : Nat, 517 ≤ j → s' j = s j) ∧ ∀ f : Nat → Int32, fX9_hold (s, R) = some (s, R.1, f, R.2.2) → mo = b2 (fX9_ends (s', R.1, f, R.2.2) (iI r)) fun r' M' => some (r', M')
section AH
variable {V : Vn} {A : Ab} {K : Int} {s : Nat → Int32} {R : Rs}
theorem agPrice (hX : RepX V A) (hM : RepM s A) (hW : WF K A) (hK : K + 1 ≤ 80000) (x1 x2 : Int32) : AgH V (fX0_changePrice V x1 x2) (fX9_setPrice (s, R) x1 x2) s R K := by
  have hn := hW.n
  have hMt : RepM ((s, R) : Md).1 A := hM
  obtain ⟨x, rfl, hx1, hx2⟩ := iX x1
  obtain ⟨y, rfl, hy1, hy2⟩ := iX x2
  by_cases h1 : 0 ≤ x ∧ x < A.nR
  · obtain ⟨h1a, h1b⟩ := h1
    by_cases h2 : 1 ≤ y ∧ y ≤ 200
    · obtain ⟨h2a, h2b⟩ := h2
      have hr := (hW.2.2.1 x h1a h1b).2.2.1
      have hp := putI11 (T := V.1) (c := 2) (x := iI y) hX.uR hn.2.1 h1a h1b (by omega) (by omega)
      refine Or.inr ⟨A.R x 2, _, _, A.setR x 2 y, by omega, by omega, ?_, RepX.setR hX h1a h1b (c := 2) (v := y) (by omega) (by omega), RepM.setR hM hW.l16.1 hW.l16.2 h1a (by omega) (c := 2) (v := y) (by omega) (by omega), (hW.mono (K' := K + 1) (by omega) hK).setR2 h2a h2b, fun j hj => by rw [ud_n (by omega)], fun f hf => ?_⟩
      · simp (disch := omega) only [nmD, bdS, b2S, lit32, iA, iS, iM, iN, iLt, iLe, iE, zlT, zlF, zleT, zleF, zeT, zeF, RdI, WrI, DvI, jmaxI, jminI, jabsI, bI0, Zb0, Zb1, ZbI, ↓reduceIte, not_true_eq_false, not_false_eq_true, ite_not, and_true, true_and, and_false, false_and, and_self, fX0_changePrice, xHasR hX hW, xIn, xR hX hW, hp]
      · have hMf : RepM ((s, R.1, f, R.2.2) : Md).1 A := hM
        simp (disch := omega) only [nmD, bdS, b2S, lit32, iA, iS, iM, iN, iLt, iLe, iE, zlT, zlF, zleT, zleF, zeT, zeF, RdI, WrI, DvI, jmaxI, jminI, jabsI, bI0, Zb0, Zb1, ZbI, ↓reduceIte, not_true_eq_false, not_false_eq_true, ite_not, and_true, true_and, and_false, false_and, and_self, fX9_setPrice, mIsR hMt hW, mIn, hf, mRo hMf]
    · refine Or.inl ⟨iI (-1), by decide, ?_, ?_⟩
      · simp (disch := omega) only [nmD, bdS, b2S, lit32, iA, iS, iM, iN, iLt, iLe, iE, zlT, zlF, zleT, zleF, zeT, zeF, RdI, WrI, DvI, jmaxI, jminI, jabsI, bI0, Zb0, Zb1, ZbI, ↓reduceIte, not_true_eq_false, not_false_eq_true, ite_not, and_true, true_and, and_false, false_and, and_self, fX0_changePrice, xHasR hX hW, xIn, h2]
      · simp (disch := omega) only [nmD, bdS, b2S, lit32, iA, iS, iM, iN, iLt, iLe, iE, zlT, zlF, zleT, zleF, zeT, zeF, RdI, WrI, DvI, jmaxI, jminI, jabsI, bI0, Zb0, Zb1, ZbI, ↓reduceIte, not_true_eq_false, not_false_eq_true, ite_not, and_true, true_and, and_false, false_and, and_self, fX9_setPrice, mIsR hMt hW, mIn, h2]
  · refine Or.inl ⟨iI (-1), by decide, ?_, ?_⟩
    · simp (disch := omega) only [nmD, bdS, b2S, lit32, iA, iS, iM, iN, iLt, iLe, iE, zlT, zlF, zleT, zleF, zeT, zeF, RdI, WrI, DvI, jmaxI, jminI, jabsI, bI0, Zb0, Zb1, ZbI, ↓reduceIte, not_true_eq_false, not_false_eq_true, ite_not, and_true, true_and, and_false, false_and, and_self, fX0_changePrice, xHasR hX hW, h1]
    · simp (disch := omega) only [nmD, bdS, b2S, lit32, iA, iS, iM, iN, iLt, iLe, iE, zlT, zlF, zleT, zleF, zeT, zeF, RdI, WrI, DvI, jmaxI, jminI, jabsI, bI0, Zb0, Zb1, ZbI, ↓reduceIte, not_true_eq_false, not_false_eq_true, ite_not, and_true, true_and, and_false, false_and, and_self, fX9_setPrice, mIsR hMt hW, h1]
theorem most_b (k : Int) : 10 ≤ most k ∧ most k ≤ 60 := by
  unfold most
  split
  · omega
  · split
    · omega
    · split
      · omega
      · split <;> omega
theorem xMost {x : Int} (h1 : 0 ≤ x) (h2 : x < 5) : mstS.getD x.toNat (iI 0) = iI (most x) := by
  rcases (show x = 0 ∨ x = 1 ∨ x = 2 ∨ x = 3 ∨ x = 4 by omega) with rfl | rfl | rfl | rfl | rfl <;> rfl
theorem mMost {x : Int} (h1 : 0 ≤ x) (h2 : x < 5) : fX9_highest (iI x) = some (iI (most x)) := by
  have m0 : most 0 = 10 := rfl
  have m1 : most 1 = 30 := rfl
  have m2 : most 2 = 20 := rfl
  have m3 : most 3 = 60 := rfl
  have m4 : most 4 = 50 := rfl
  rcases (show x = 0 ∨ x = 1 ∨ x = 2 ∨ x = 3 ∨ x = 4 by omega) with rfl | rfl | rfl | rfl | rfl
  · simp (disch := omega) only [nmD, bdS, b2S, lit32, iA, iS, iM, iN, iLt, iLe, iE, zlT, zlF, zleT, zleF, zeT, zeF, RdI, WrI, DvI, jmaxI, jminI, jabsI, bI0, Zb0, Zb1, ZbI, ↓reduceIte, not_true_eq_false, not_false_eq_true, ite_not, and_true, true_and, and_false, false_and, and_self, fX9_highest, fX9_highest_j41, m0]
  · simp (disch := omega) only [nmD, bdS, b2S, lit32, iA, iS, iM, iN, iLt, iLe, iE, zlT, zlF, zleT, zleF, zeT, zeF, RdI, WrI, DvI, jmaxI, jminI, jabsI, bI0, Zb0, Zb1, ZbI, ↓reduceIte, not_true_eq_false, not_false_eq_true, ite_not, and_true, true_and, and_false, false_and, and_self, fX9_highest, fX9_highest_j41, m1]
  · simp (disch := omega) only [nmD, bdS, b2S, lit32, iA, iS, iM, iN, iLt, iLe, iE, zlT, zlF, zleT, zleF, zeT, zeF, RdI, WrI, DvI, jmaxI, jminI, jabsI, bI0, Zb0, Zb1, ZbI, ↓reduceIte, not_true_eq_false, not_false_eq_true, ite_not, and_true, true_and, and_false, false_and, and_self, fX9_highest, fX9_highest_j41, m2]
  · simp (disch := omega) only [nmD, bdS, b2S, lit32, iA, iS, iM, iN, iLt, iLe, iE, zlT, zlF, zleT, zleF, zeT, zeF, RdI, WrI, DvI, jmaxI, jminI, jabsI, bI0, Zb0, Zb1, ZbI, ↓reduceIte, not_true_eq_false, not_false_eq_true, ite_not, and_true, true_and, and_false, false_and, and_self, fX9_highest, fX9_highest_j41, m3]
  · simp (disch := omega) only [nmD, bdS, b2S, lit32, iA, iS, iM, iN, iLt, iLe, iE, zlT, zlF, zleT, zleF, zeT, zeF, RdI, WrI, DvI, jmaxI, jminI, jabsI, bI0, Zb0, Zb1, ZbI, ↓reduceIte, not_true_eq_false, not_false_eq_true, ite_not, and_true, true_and, and_false, false_and, and_self, fX9_highest, fX9_highest_j41, m4]
theorem agSet (hX : RepX V A) (hM : RepM s A) (hW : WF K A) (hK : K + 1 ≤ 80000) (x1 x2 : Int32) : AgH V (fX0_changeSetting V x1 x2) (fX9_set (s, R) x1 x2) s R K := by
  have hn := hW.n
  obtain ⟨x, rfl, hx1, hx2⟩ := iX x1
  obtain ⟨y, rfl, hy1, hy2⟩ := iX x2
  by_cases h1 : 0 ≤ x ∧ x ≤ 4
  · obtain ⟨h1a, h1b⟩ := h1
    have hm := most_b x
    have hxm := xMost h1a (by omega)
    have hmm := mMost h1a (by omega)
    by_cases h2 : 0 ≤ y ∧ y ≤ most x
    · obtain ⟨h2a, h2b⟩ := h2
      have hs : 0 ≤ A.S x ∧ A.S x ≤ 100000 := by
        have := hW.2.1
        rcases (show x = 0 ∨ x = 1 ∨ x = 2 ∨ x = 3 ∨ x = 4 by omega) with rfl | rfl | rfl | rfl | rfl <;> omega
      have hp := putI1 (T := V.2.2.2.2.1) (r := x) (c := 0) (x := iI y) (u := 5) hX.uS (by omega) h1a (by omega) (by omega) (by omega)
      have hsm : s (4 + x).toNat = iI (A.S x) := hM.2.2.2.2.1 x h1a (by omega)
      refine Or.inr ⟨A.S x, _, _, A.setS x y, by omega, by omega, ?_, RepX.setS hX h1a (v := y) (by omega), RepM.setS hM hW.l16.1 hW.l16.2 h1a (v := y) (by omega), (hW.mono (K' := K + 1) (by omega) hK).setS h1a h1b h2a h2b, fun j hj => by rw [ud_n (by omega)], fun f hf => ?_⟩
      · simp (disch := omega) only [nmD, bdS, b2S, lit32, iA, iS, iM, iN, iLt, iLe, iE, zlT, zlF, zleT, zleF, zeT, zeF, RdI, WrI, DvI, jmaxI, jminI, jabsI, bI0, Zb0, Zb1, ZbI, ↓reduceIte, not_true_eq_false, not_false_eq_true, ite_not, and_true, true_and, and_false, false_and, and_self, fX0_changeSetting, hxm, xIn, xset hX, hp]
      · simp (disch := omega) only [nmD, bdS, b2S, lit32, iA, iS, iM, iN, iLt, iLe, iE, zlT, zlF, zleT, zleF, zeT, zeF, RdI, WrI, DvI, jmaxI, jminI, jabsI, bI0, Zb0, Zb1, ZbI, ↓reduceIte, not_true_eq_false, not_false_eq_true, ite_not, and_true, true_and, and_false, false_and, and_self, fX9_set, mIn, hmm, hf, hsm]
    · refine Or.inl ⟨iI (-1), by decide, ?_, ?_⟩
      · simp (disch := omega) only [nmD, bdS, b2S, lit32, iA, iS, iM, iN, iLt, iLe, iE, zlT, zlF, zleT, zleF, zeT, zeF, RdI, WrI, DvI, jmaxI, jminI, jabsI, bI0, Zb0, Zb1, ZbI, ↓reduceIte, not_true_eq_false, not_false_eq_true, ite_not, and_true, true_and, and_false, false_and, and_self, fX0_changeSetting, hxm, xIn, h2]
      · simp (disch := omega) only [nmD, bdS, b2S, lit32, iA, iS, iM, iN, iLt, iLe, iE, zlT, zlF, zleT, zleF, zeT, zeF, RdI, WrI, DvI, jmaxI, jminI, jabsI, bI0, Zb0, Zb1, ZbI, ↓reduceIte, not_true_eq_false, not_false_eq_true, ite_not, and_true, true_and, and_false, false_and, and_self, fX9_set, mIn, hmm, h2]
  · refine Or.inl ⟨iI (-1), by decide, ?_, ?_⟩
    · by_cases c : x < 0
      · simp (disch := omega) only [nmD, bdS, b2S, lit32, iA, iS, iM, iN, iLt, iLe, iE, zlT, zlF, zleT, zleF, zeT, zeF, RdI, WrI, DvI, jmaxI, jminI, jabsI, bI0, Zb0, Zb1, ZbI, ↓reduceIte, not_true_eq_false, not_false_eq_true, ite_not, and_true, true_and, and_false, false_and, and_self, fX0_changeSetting]
      · simp (disch := omega) only [nmD, bdS, b2S, lit32, iA, iS, iM, iN, iLt, iLe, iE, zlT, zlF, zleT, zleF, zeT, zeF, RdI, WrI, DvI, jmaxI, jminI, jabsI, bI0, Zb0, Zb1, ZbI, ↓reduceIte, not_true_eq_false, not_false_eq_true, ite_not, and_true, true_and, and_false, false_and, and_self, fX0_changeSetting]
    · simp (disch := omega) only [nmD, bdS, b2S, lit32, iA, iS, iM, iN, iLt, iLe, iE, zlT, zlF, zleT, zleF, zeT, zeF, RdI, WrI, DvI, jmaxI, jminI, jabsI, bI0, Zb0, Zb1, ZbI, ↓reduceIte, not_true_eq_false, not_false_eq_true, ite_not, and_true, true_and, and_false, false_and, and_self, fX9_set, mIn, h1]
set_option maxHeartbeats 4000000 in
theorem agMove (hX : RepX V A) (hM : RepM s A) (hW : WF K A) (hK : K + 1 ≤ 80000) (x1 x2 : Int32) : AgH V (fX0_changeTime V x1 x2) (fX9_move (s, R) x1 x2) s R K := by
  have hn := hW.n
  have hMt : RepM ((s, R) : Md).1 A := hM
  obtain ⟨x, rfl, hx1, hx2⟩ := iX x1
  obtain ⟨y, rfl, hy1, hy2⟩ := iX x2
  by_cases h1 : 0 ≤ x ∧ x < A.nB
  · obtain ⟨h1a, h1b⟩ := h1
    have hb := hW.b h1a h1b
    have hm3 := mBo hMt (i := x) (c := 3) h1a (by omega) (by omega) (by omega)
    have hm0 := mBo hMt (i := x) (c := 0) h1a (by omega) (by omega) (by omega)
    by_cases h2 : 0 ≤ y ∧ y ≤ 720
    · obtain ⟨h2a, h2b⟩ := h2
      by_cases h3 : A.B x 3 = 0
      · have hr0 : 0 ≤ A.B x 0 ∧ A.B x 0 < A.nR := (hW.2.2.2.1 x h1a h1b).1
        have hpx := xPoss hX hW (room := A.B x 0) (time := y) (but := x) hr0 (by omega) (by omega) (fun _ _ => h3)
        have hpm := mPoss hMt hW (room := A.B x 0) (time := y) (but := x) hr0 (by omega) (by omega)
        by_cases h4 : Poss A (A.B x 0) y x
        · have hpx := hpx.1 h4
          have hpm := hpm.1 h4
          have hp := putI10 (T := V.2.1) (c := 1) (x := iI y) hX.uB hn.2.2.2.1 h1a h1b (by omega) (by omega)
          have ht : 0 ≤ A.B x 1 ∧ A.B x 1 ≤ 100000 := by
            have := (hW.2.2.2.1 x h1a h1b).2.1
            omega
          refine Or.inr ⟨A.B x 1, _, _, A.setB x 1 y, ht.1, ht.2, ?_, RepX.setB hX h1a h1b (c := 1) (v := y) (by omega) (by omega) (by omega), RepM.setB hM hW.l16.1 hW.l16.2 h1a (by omega) (c := 1) (v := y) (by omega) (by omega), (hW.mono (K' := K + 1) (by omega) hK).setB1 h1a h1b h3 h2a h2b h4, fun j hj => by rw [ud_n (by omega)], fun f hf => ?_⟩
          · clear hpm hm3 hm0
            simp (disch := omega) only [nmD, bdS, b2S, lit32, iA, iS, iM, iN, iLt, iLe, iE, zlT, zlF, zleT, zleF, zeT, zeF, RdI, WrI, DvI, jmaxI, jminI, jabsI, bI0, Zb0, Zb1, ZbI, ↓reduceIte, not_true_eq_false, not_false_eq_true, ite_not, and_true, true_and, and_false, false_and, and_self, fX0_changeTime, xHasB hX hW, xIn, xB hX hW, xBooked hX hW, hpx, hp]
          · have hMf : RepM ((s, R.1, f, R.2.2) : Md).1 A := hM
            have hm1 := mBo hMf (i := x) (c := 1) h1a (by omega) (by omega) (by omega)
            have hl := mLays (R := (R.1, f, R.2.2)) (x := iI y) hM h1a (by omega) (c := 1) (by omega) (by omega)
            clear hpx
            simp (disch := omega) only [nmD, bdS, b2S, lit32, iA, iS, iM, iN, iLt, iLe, iE, zlT, zlF, zleT, zleF, zeT, zeF, RdI, WrI, DvI, jmaxI, jminI, jabsI, bI0, Zb0, Zb1, ZbI, ↓reduceIte, not_true_eq_false, not_false_eq_true, ite_not, and_true, true_and, and_false, false_and, and_self, fX9_move, mIsB hMt hW, mIn, hm3, hm0, hpm, h3, hf, hm1, hl]
        · have hpx := hpx.2 h4
          have hpm := hpm.2 h4
          refine Or.inl ⟨iI (-2), by decide, ?_, ?_⟩
          · clear hpm hm3 hm0
            simp (disch := omega) only [nmD, bdS, b2S, lit32, iA, iS, iM, iN, iLt, iLe, iE, zlT, zlF, zleT, zleF, zeT, zeF, RdI, WrI, DvI, jmaxI, jminI, jabsI, bI0, Zb0, Zb1, ZbI, ↓reduceIte, not_true_eq_false, not_false_eq_true, ite_not, and_true, true_and, and_false, false_and, and_self, fX0_changeTime, xHasB hX hW, xIn, xB hX hW, xBooked hX hW, hpx]
          · clear hpx
            simp (disch := omega) only [nmD, bdS, b2S, lit32, iA, iS, iM, iN, iLt, iLe, iE, zlT, zlF, zleT, zleF, zeT, zeF, RdI, WrI, DvI, jmaxI, jminI, jabsI, bI0, Zb0, Zb1, ZbI, ↓reduceIte, not_true_eq_false, not_false_eq_true, ite_not, and_true, true_and, and_false, false_and, and_self, fX9_move, mIsB hMt hW, mIn, hm3, hm0, hpm, h3]
      · refine Or.inl ⟨iI (-2), by decide, ?_, ?_⟩
        · simp (disch := omega) only [nmD, bdS, b2S, lit32, iA, iS, iM, iN, iLt, iLe, iE, zlT, zlF, zleT, zleF, zeT, zeF, RdI, WrI, DvI, jmaxI, jminI, jabsI, bI0, Zb0, Zb1, ZbI, ↓reduceIte, not_true_eq_false, not_false_eq_true, ite_not, and_true, true_and, and_false, false_and, and_self, fX0_changeTime, xHasB hX hW, xIn, xB hX hW, xBooked hX hW, h3]
        · simp (disch := omega) only [nmD, bdS, b2S, lit32, iA, iS, iM, iN, iLt, iLe, iE, zlT, zlF, zleT, zleF, zeT, zeF, RdI, WrI, DvI, jmaxI, jminI, jabsI, bI0, Zb0, Zb1, ZbI, ↓reduceIte, not_true_eq_false, not_false_eq_true, ite_not, and_true, true_and, and_false, false_and, and_self, fX9_move, mIsB hMt hW, mIn, hm3]
    · refine Or.inl ⟨iI (-1), by decide, ?_, ?_⟩
      · simp (disch := omega) only [nmD, bdS, b2S, lit32, iA, iS, iM, iN, iLt, iLe, iE, zlT, zlF, zleT, zleF, zeT, zeF, RdI, WrI, DvI, jmaxI, jminI, jabsI, bI0, Zb0, Zb1, ZbI, ↓reduceIte, not_true_eq_false, not_false_eq_true, ite_not, and_true, true_and, and_false, false_and, and_self, fX0_changeTime, xHasB hX hW, xIn, h2]
      · simp (disch := omega) only [nmD, bdS, b2S, lit32, iA, iS, iM, iN, iLt, iLe, iE, zlT, zlF, zleT, zleF, zeT, zeF, RdI, WrI, DvI, jmaxI, jminI, jabsI, bI0, Zb0, Zb1, ZbI, ↓reduceIte, not_true_eq_false, not_false_eq_true, ite_not, and_true, true_and, and_false, false_and, and_self, fX9_move, mIsB hMt hW, mIn, h2]
  · refine Or.inl ⟨iI (-1), by decide, ?_, ?_⟩
    · simp (disch := omega) only [nmD, bdS, b2S, lit32, iA, iS, iM, iN, iLt, iLe, iE, zlT, zlF, zleT, zleF, zeT, zeF, RdI, WrI, DvI, jmaxI, jminI, jabsI, bI0, Zb0, Zb1, ZbI, ↓reduceIte, not_true_eq_false, not_false_eq_true, ite_not, and_true, true_and, and_false, false_and, and_self, fX0_changeTime, xHasB hX hW, h1]
    · simp (disch := omega) only [nmD, bdS, b2S, lit32, iA, iS, iM, iN, iLt, iLe, iE, zlT, zlF, zleT, zleF, zeT, zeF, RdI, WrI, DvI, jmaxI, jminI, jabsI, bI0, Zb0, Zb1, ZbI, ↓reduceIte, not_true_eq_false, not_false_eq_true, ite_not, and_true, true_and, and_false, false_and, and_self, fX9_move, mIsB hMt hW, h1]
end AH
