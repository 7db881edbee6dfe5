/-! Actions: cancel. -/
abbrev Rs : Type := (Nat → Int32) × (Nat → Int32) × Int32 × (Nat → Int32) × Int32 × Int32 × Int32 × Int64 × (Nat → Int32)
/-- both sides answer alike, and show one venue behind it -/
def Ag (cx : Option (Int32 × Vn)) (cm : Option (Int32 × Md)) (s : Nat → Int32) (R : Rs) (K : Int) : Prop := ∃ (r : Int32) (V' : Vn) (s' : Nat → Int32) (A' : Ab), cx = some (r, V') ∧ cm = some (r, (s', R)) ∧ RepX V' A' ∧ RepM s' A' ∧ WF (K + 1) A' ∧ ∀ j : Nat, 517 ≤ j → s' j = s j
theorem setB_T (A : Ab) (i c v t : Int) : (A.setB i c v).setT t = (A.setT t).setB i c v := rfl
theorem rfA_setB3 (A : Ab) (i z a : Int) : rfA (A.setB i 3 z) i a = (rfA A i a).setB i 3 z := by
  have e5 : (A.setB i 3 z).B i 5 = A.B i 5 := up2_n _ _ (by omega)
  have e6 : (A.setB i 3 z).B i 6 = A.B i 6 := up2_n _ _ (by omega)
  unfold rfA
  rw [e5, e6]
  have q1 : ((A.setB i 3 z).setB i 5 (A.B i 5 - min a (A.B i 5))).setT ((A.setB i 3 z).t - min a (A.B i 5)) = ((A.setB i 5 (A.B i 5 - min a (A.B i 5))).setT (A.t - min a (A.B i 5))).setB i 3 z := by
    show ((A.setB i 3 z).setB i 5 (A.B i 5 - min a (A.B i 5))).setT (A.t - min a (A.B i 5)) = ((A.setB i 5 (A.B i 5 - min a (A.B i 5))).setB i 3 z).setT (A.t - min a (A.B i 5))
    rw [setB_comm A (r := i) (c := 3) (v := z) (c' := 5) (v' := A.B i 5 - min a (A.B i 5)) (by omega)]
  show (rf i (len (A.rows i)).toNat (a - min a (A.B i 5)) (((A.setB i 3 z).setB i 5 (A.B i 5 - min a (A.B i 5))).setT ((A.setB i 3 z).t - min a (A.B i 5)))).1.setB i 6 (A.B i 6 + a) = _
  rw [q1, rf_setB]
  exact setB_comm _ (by omega)
section AC
variable {V : Vn} {A : Ab} {K : Int} {s : Nat → Int32} {R : Rs}
theorem mLays (h : RepM s A) {i c : Int} {x : Int32} (h1 : 0 ≤ i) (h2 : i < 16) (h3 : 0 ≤ c) (h4 : c < 9) : fX9_lays (s, R) (iI i) (iI c) x = some (upd s (53 + 9 * i + c).toNat x, R) := by
  simp (disch := omega) only [nmD, bdS, b2S, lit32, iA, iS, iM, iN, iLt, iLe, iE, zlT, zlF, zleT, zleF, zeT, zeF, RdI, WrI, DvI, jmaxI, jminI, jabsI, bI0, Zb0, Zb1, ZbI, ↓reduceIte, not_true_eq_false, not_false_eq_true, ite_not, and_true, true_and, and_false, false_and, and_self, fX9_lays]
theorem agFail (hX : RepX V A) (hM : RepM s A) (hW : WF K A) (hK : K + 1 ≤ 80000) {cx : Option (Int32 × Vn)} {cm : Option (Int32 × Md)} {r : Int32} (h1 : cx = some (r, V)) (h2 : cm = some (r, (s, R))) : Ag cx cm s R K := ⟨r, V, s, A, h1, h2, hX, hM, hW.mono (by omega) hK, fun _ _ => rfl⟩
set_option maxHeartbeats 4000000 in
theorem agDrop (hX : RepX V A) (hM : RepM s A) (hW : WF K A) (hK : K + 1 ≤ 80000) (x1 : Int32) : Ag (fX0_callOff V x1) (fX9_doDrop (s, R) x1) s R K := by
  have hn := hW.n
  have hs := hW.s
  have hMt : RepM ((s, R) : Md).1 A := hM
  obtain ⟨x, rfl, hx1, hx2⟩ := iX x1
  by_cases h1 : 0 ≤ x ∧ x < A.nB
  · obtain ⟨h1a, h1b⟩ := h1
    have hb := hW.b h1a h1b
    by_cases h3 : A.B x 3 = 0
    · have hg := good_self (A := A) h1a h1b h3
      have hsb := stt_b hW hg (later := 0) (by omega) (by omega)
      have hch := (hW.2.2.2.1 x h1a h1b).2.2.2.2.2.2 h3
      have hrp := (rsum_pos hW h1a h1b).1
      have hW2 := hW.setB3 (i := x) (v := 2) h1a h1b h3 (by omega) (by omega)
      have e5 : (A.setB x 3 2).B x 5 = A.B x 5 := up2_n _ _ (by omega)
      have e3 : (A.setB x 3 2).B x 3 = 2 := up2_s _ _ _ _
      have hX2 := RepX.setB hX (i := x) (c := 3) (v := 2) h1a h1b (by omega) (by omega) (by omega)
      have hX2 : RepX (V.1, (V.2.1.1, upd V.2.1.2 (x * 10 + 3).toNat (iI 2)), V.2.2) (A.setB x 3 2) := hX2
      have hp3 := putI10 (T := V.2.1) (c := 3) (x := iI 2) hX.uB hn.2.2.2.1 h1a h1b (by omega) (by omega)
      have hx5 := xSt hX hW hg
      have hm5 := mSt hMt hW hg (later := 0) (by omega) (by omega)
      have fin : ∀ a : Int, 0 ≤ a → a ≤ A.B x 5 + rsum A x → ∃ (V' : Vn) (s' : Nat → Int32) (A' : Ab), fX0_callOff_j84 V (iI x) (iI a) = some (iI a, V') ∧ fX9_doDrop_j65 (s, R) (iI x) (iI a) = some (iI a, (s', R)) ∧ RepX V' A' ∧ RepM s' A' ∧ WF (K + 1) A' ∧ ∀ j : Nat, 517 ≤ j → s' j = s j := by
        intro a a0 a1
        obtain ⟨V', g1, g2⟩ := xRefund hX2 hW2 hK (i := x) (a := a) h1a h1b (by rw [e3]; omega) a0 (by omega) (by rw [e5]; exact a1)
        obtain ⟨s', f1, f2, f3⟩ := mRefund (R := R) hM (z := 2) (by omega) hW2 hK (i0 := x) (a := a) h1a h1b a0 (by omega) a1
        have hWf := (rfA_pre hW2 hK (i := x) (a := a) h1a h1b (by rw [e3]; omega) a0 (by omega) (by rw [e5]; exact a1)).2.2.2
        have hl : A.nB ≤ 16 ∧ ∀ i : Int, 0 ≤ i → i < A.nB → len (A.rows i) ≤ 16 := hW.l16
        have k := rf_keep x (len (A.rows x)).toNat (a - min a (A.B x 5)) ((A.setB x 5 (A.B x 5 - min a (A.B x 5))).setT (A.t - min a (A.B x 5)))
        have kn : (rfA A x a).nB = A.nB := k.2.1
        have kr : (rfA A x a).rows = A.rows := k.2.2.1
        have hfin := RepM.setB f2 (by rw [kn]; exact hl.1) (by rw [kn, kr]; exact hl.2) (i := x) (c := 3) (v := 2) h1a (by omega) (by omega) (by omega)
        rw [← rfA_setB3] at hfin
        refine ⟨V', _, _, ?_, ?_, g2, hfin, hWf, fun j hj => by rw [ud_n (by omega), f3 j hj]⟩
        · unfold fX0_callOff_j84
          rw [show fX6_put 160 16 10 V.2.1 (iI x) 3 2 = _ from hp3, bdS, nmD, g1, bdS]
        · unfold fX9_doDrop_j65
          rw [f1, bdS, show fX9_lays (s', R) (iI x) 3 2 = _ from mLays (x := iI 2) f2 h1a (by omega) (c := 3) (by omega) (by omega), bdS]
      have hmp := mPaid hMt hW h1a h1b
      have hm1 := mBo hMt (i := x) (c := 1) h1a (by omega) (by omega) (by omega)
      have hm55 := mBo hMt (i := x) (c := 5) h1a (by omega) (by omega) (by omega)
      have hm3 := mBo hMt (i := x) (c := 3) h1a (by omega) (by omega) (by omega)
      have hms3 : s 7 = iI (A.S 3) := hMt.s3
      have e7 : (7 : Int).toNat = 7 := rfl
      have hisB := mIsB hMt hW hx1 hx2
      by_cases c : stt A x 0 - A.B x 1 ≤ A.S 3
      · obtain ⟨V', s', A', q1, q2, q3⟩ := fin ((A.B x 5 + rsum A x) / 2) (by omega) (by omega)
        refine ⟨iI ((A.B x 5 + rsum A x) / 2), V', s', A', ?_, ?_, q3⟩
        · rw [← q1]
          clear fin q1 q2 q3 hX2 hW2 hp3 hm5
          simp (disch := omega) only [nmD, bdS, b2S, lit32, iA, iS, iM, iN, iLt, iLe, iE, zlT, zlF, zleT, zleF, zeT, zeF, RdI, WrI, DvI, jmaxI, jminI, jabsI, bI0, Zb0, Zb1, ZbI, ↓reduceIte, not_true_eq_false, not_false_eq_true, ite_not, and_true, true_and, and_false, false_and, and_self, fX0_callOff, xHasB hX hW, xBooked hX hW, hx5, xB hX hW, xPaid hX hW, xset hX]
        · rw [← q2]
          clear fin q1 q2 q3 hX2 hW2 hp3 hx5
          simp (disch := omega) only [nmD, bdS, b2S, lit32, iA, iS, iM, iN, iLt, iLe, iE, zlT, zlF, zleT, zleF, zeT, zeF, RdI, WrI, DvI, jmaxI, jminI, jabsI, bI0, Zb0, Zb1, ZbI, ↓reduceIte, not_true_eq_false, not_false_eq_true, ite_not, and_true, true_and, and_false, false_and, and_self, fX9_doDrop, hisB, hm1, hm3, hm55, hmp, hm5, e7, hms3]
      · obtain ⟨V', s', A', q1, q2, q3⟩ := fin (A.B x 5 + rsum A x) (by omega) (by omega)
        refine ⟨iI (A.B x 5 + rsum A x), V', s', A', ?_, ?_, q3⟩
        · rw [← q1]
          clear fin q1 q2 q3 hX2 hW2 hp3 hm5
          simp (disch := omega) only [nmD, bdS, b2S, lit32, iA, iS, iM, iN, iLt, iLe, iE, zlT, zlF, zleT, zleF, zeT, zeF, RdI, WrI, DvI, jmaxI, jminI, jabsI, bI0, Zb0, Zb1, ZbI, ↓reduceIte, not_true_eq_false, not_false_eq_true, ite_not, and_true, true_and, and_false, false_and, and_self, fX0_callOff, xHasB hX hW, xBooked hX hW, hx5, xB hX hW, xPaid hX hW, xset hX]
        · rw [← q2]
          clear fin q1 q2 q3 hX2 hW2 hp3 hx5
          simp (disch := omega) only [nmD, bdS, b2S, lit32, iA, iS, iM, iN, iLt, iLe, iE, zlT, zlF, zleT, zleF, zeT, zeF, RdI, WrI, DvI, jmaxI, jminI, jabsI, bI0, Zb0, Zb1, ZbI, ↓reduceIte, not_true_eq_false, not_false_eq_true, ite_not, and_true, true_and, and_false, false_and, and_self, fX9_doDrop, hisB, hm1, hm3, hm55, hmp, hm5, e7, hms3]
    · refine agFail hX hM hW hK (r := iI (-2)) ?_ ?_
      · simp (disch := omega) only [nmD, bdS, b2S, lit32, iA, iS, iM, iN, iLt, iLe, iE, zlT, zlF, zleT, zleF, zeT, zeF, RdI, WrI, DvI, jmaxI, jminI, jabsI, bI0, Zb0, Zb1, ZbI, ↓reduceIte, not_true_eq_false, not_false_eq_true, ite_not, and_true, true_and, and_false, false_and, and_self, fX0_callOff, xHasB hX hW, xBooked hX hW]
      · simp (disch := omega) only [nmD, bdS, b2S, lit32, iA, iS, iM, iN, iLt, iLe, iE, zlT, zlF, zleT, zleF, zeT, zeF, RdI, WrI, DvI, jmaxI, jminI, jabsI, bI0, Zb0, Zb1, ZbI, ↓reduceIte, not_true_eq_false, not_false_eq_true, ite_not, and_true, true_and, and_false, false_and, and_self, fX9_doDrop, mIsB hMt hW, mBo hMt]
  · refine agFail hX hM hW hK (r := iI (-1)) ?_ ?_
    · simp (disch := omega) only [nmD, bdS, b2S, lit32, iA, iS, iM, iN, iLt, iLe, iE, zlT, zlF, zleT, zleF, zeT, zeF, RdI, WrI, DvI, jmaxI, jminI, jabsI, bI0, Zb0, Zb1, ZbI, ↓reduceIte, not_true_eq_false, not_false_eq_true, ite_not, and_true, true_and, and_false, false_and, and_self, fX0_callOff, xHasB hX hW, h1]
    · simp (disch := omega) only [nmD, bdS, b2S, lit32, iA, iS, iM, iN, iLt, iLe, iE, zlT, zlF, zleT, zleF, zeT, zeF, RdI, WrI, DvI, jmaxI, jminI, jabsI, bI0, Zb0, Zb1, ZbI, ↓reduceIte, not_true_eq_false, not_false_eq_true, ite_not, and_true, true_and, and_false, false_and, and_self, fX9_doDrop, mIsB hMt hW, h1]
end AC
