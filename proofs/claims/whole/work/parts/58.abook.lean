/-! A new booking: the action. -/
section BK
variable {V : Vn} {A : Ab} {K : Int} {s : Nat → Int32} {R : Rs}
theorem repXnb (h : RepX V A) (hW : WF K A) (hn : A.nB < 16) {T W P : Tb} {r t p c d v : Int} (hT : T.1 = iI (A.nB + 1)) (ho : ∀ j : Int, 0 ≤ j → j < A.nB * 10 → T.2 j.toNat = V.2.1.2 j.toNat) (c0 : T.2 (A.nB * 10 + 0).toNat = iI r) (c1 : T.2 (A.nB * 10 + 1).toNat = iI t) (c2 : T.2 (A.nB * 10 + 2).toNat = iI p) (c3 : T.2 (A.nB * 10 + 3).toNat = iI 0) (c4 : T.2 (A.nB * 10 + 4).toNat = iI c) (c5 : T.2 (A.nB * 10 + 5).toNat = iI (c - d)) (c7 : T.2 (A.nB * 10 + 7).toNat = iI 0) (c8 : T.2 (A.nB * 10 + 8).toNat = iI (-9)) (c9 : T.2 (A.nB * 10 + 9).toNat = iI (-9)) (hP : Pd V A d v W P) : RepX (V.1, T, W, P, V.2.2.2.2.1, iI (A.t + (c - d))) (nb A r t p c d v) := by
  have hN := hW.n
  have cells : ∀ i k : Int, 0 ≤ i → i < A.nB + 1 → 0 ≤ k → k < 10 → k ≠ 6 → T.2 (i * 10 + k).toNat = iI (nbB A r t p c (c - d) i (clm k)) := by
    intro i k i0 i1 k0 k1 k2
    by_cases e : i = A.nB
    · rw [e]
      rcases (show k = 0 ∨ k = 1 ∨ k = 2 ∨ k = 3 ∨ k = 4 ∨ k = 5 ∨ k = 7 ∨ k = 8 ∨ k = 9 by omega) with rfl | rfl | rfl | rfl | rfl | rfl | rfl | rfl | rfl
      · rw [show clm 0 = 0 from rfl, nbB_0]; exact c0
      · rw [show clm 1 = 1 from rfl, nbB_1]; exact c1
      · rw [show clm 2 = 2 from rfl, nbB_2]; exact c2
      · rw [show clm 3 = 3 from rfl, nbB_3]; exact c3
      · rw [show clm 4 = 4 from rfl, nbB_4]; exact c4
      · rw [show clm 5 = 5 from rfl, nbB_5]; exact c5
      · rw [show clm 7 = 6 from rfl, nbB_6]; exact c7
      · rw [show clm 8 = 7 from rfl, nbB_7]; exact c8
      · rw [show clm 9 = 8 from rfl, nbB_8]; exact c9
    · rw [nbB_o _ _ _ _ _ _ (by omega), ho _ (by omega) (by omega)]
      exact h.2.2.2.2.2.2.1 i k i0 (by omega) k0 k1 k2
  obtain ⟨nP, pb, pq, pl, hQ⟩ := h.P
  have hp := hQ.n hW
  unfold nb
  rcases hP with ⟨hd, rfl, rfl⟩ | ⟨hd, hv, rfl, nP', a1, a2, a3, a4, a5, a6, a7, a8, a9⟩
  · rw [if_neg (by omega)]
    exact ⟨h.1, hT, h.2.2.1, h.2.2.2.1, rfl, h.2.2.2.2.2.1, cells, h.2.2.2.2.2.2.2.1, h.2.2.2.2.2.2.2.2.1, nP, pb, pq, pl, PP.nbn hQ rfl rfl rfl rfl⟩
  · rw [if_pos hd]
    obtain rfl : nP' = nP := (iE (by omega) (by omega) (by omega) (by omega)).mp (a1.symm.trans hQ.1)
    refine ⟨h.1, hT, h.2.2.1, h.2.2.2.1, rfl, h.2.2.2.2.2.1, cells, fun x y q1 q2 q3 q4 => ?_, h.2.2.2.2.2.2.2.2.1, _, _, _, _, PP.nbp hQ hW a4 a5 ?_ ?_ a8 a9 rfl rfl (fun z hz => ⟨up1_n _ _ (Or.inl hz), up1_n _ _ (Or.inl hz)⟩)⟩
    · show upd V.2.2.1.2 (v * 2 + 1).toNat (iI (A.V v 1 - d)) (x * 2 + y).toNat = iI (up2 A.V v 1 (A.V v 1 - d) x y)
      by_cases e : x = v ∧ y = 1
      · obtain ⟨rfl, rfl⟩ := e
        rw [ud_s, up2_s]
      · rw [ud_n (by omega), h.2.2.2.2.2.2.2.1 x y q1 q2 q3 q4]
        exact congrArg iI (if_neg e).symm
    · show P.2 _ = iI (up1 A.F A.nB v A.nB)
      rw [up1_s]; exact a6
    · show P.2 _ = iI (up1 A.U A.nB d A.nB)
      rw [up1_s]; exact a7
set_option maxHeartbeats 4000000 in
theorem agBook59 (hX : RepX V A) (hM : RepM s A) (hW : WF K A) (hK : K + 1 ≤ 80000) {r t p v d : Int} (hr : 0 ≤ r ∧ r < A.nR) (ht : 0 ≤ t ∧ t ≤ 720) (hp : 2 ≤ p ∧ p ≤ A.R r 3) (hv : (v = -1 ∧ d = 0) ∨ (0 ≤ v ∧ v < A.nV ∧ d = min (A.R r 2 * p) (A.V v 1))) : Ag (fX0_newBooking_j59 V (iI r) (iI t) (iI p) (iI v)) (fX9_doBook_j50 (s, R) (iI r) (iI t) (iI p) (iI v)) s R K := by
  have hN := hW.n
  have hMt : RepM ((s, R) : Md).1 A := hM
  have hR := hW.r hr.1 hr.2
  have hm := mulb (a := A.R r 2) (b := p) (X := 200) (Y := 8) (by omega) (by omega) (by omega) (by omega)
  have hm2 : A.R r 2 * p ≤ 200 * p := Int.mul_le_mul_of_nonneg_right hR.2.2.1.2 (by omega)
  have hpx := xPoss hX hW (room := r) (time := t) (but := -9) hr (by omega) (by omega) (fun z _ => absurd z (by omega))
  have hpm := mPoss hMt hW (room := r) (time := t) (but := -9) hr (by omega) (by omega)
  have hf := xFull (n := 160) (w := iI 10) (cap := 16) hX.uB (by omega) hN.2.2.1 (by omega) (by omega)
  have h1 : s 1 = iI A.nB := hM.2.1
  have e1 : (1 : Int).toNat = 1 := rfl
  by_cases q1 : Poss A r t (-9)
  · have hpx := hpx.1 q1
    have hpm := hpm.1 q1
    by_cases q2 : 16 ≤ A.nB
    · have q3 : A.nB = 16 := by omega
      refine agFail hX hM hW hK (r := iI (-3)) ?_ ?_
      · simp (disch := omega) only [nmD, bdS, b2S, lit32, iA, iS, iM, iN, iLt, iLe, iE, zlT, zlF, zleT, zleF, zeT, zeF, RdI, WrI, DvI, jmaxI, jminI, jabsI, bI0, Zb0, Zb1, ZbI, ↓reduceIte, not_true_eq_false, not_false_eq_true, ite_not, and_true, true_and, and_false, false_and, and_self, fX0_newBooking_j59, hpx, hf]
      · simp (disch := omega) only [nmD, bdS, b2S, lit32, iA, iS, iM, iN, iLt, iLe, iE, zlT, zlF, zleT, zleF, zeT, zeF, RdI, WrI, DvI, jmaxI, jminI, jabsI, bI0, Zb0, Zb1, ZbI, ↓reduceIte, not_true_eq_false, not_false_eq_true, ite_not, and_true, true_and, and_false, false_and, and_self, fX9_doBook_j50, hpm, e1, h1]
    · have hn : A.nB < 16 := by omega
      have hvb : 0 ≤ d ∧ d ≤ A.R r 2 * p ∧ (0 < d → 0 ≤ v ∧ v < A.nV ∧ d ≤ A.V v 1) := by
        rcases hv with ⟨rfl, rfl⟩ | ⟨v0, v1, hd⟩
        · exact ⟨by omega, by omega, fun z => absurd z (by omega)⟩
        · have := hW.2.2.2.2.1 v v0 v1
          exact ⟨by omega, by omega, fun _ => ⟨v0, v1, by omega⟩⟩
      obtain ⟨g, g1, g2, g3⟩ := addI (tn := 160) (cap := 16) (w := 10) (b := A.nB * 10) hX.uB (by omega) (by omega) (by omega) (by omega) (by omega) (by omega) (fun T c hT c0 c1 => putI10 hT (by omega) (by omega) (by omega) c0 c1)
      obtain ⟨T0, k0, u0, f0, y0⟩ := putE10 (T := (iI (A.nB + 1), g)) (x := iI r) (r := A.nB) (c := 0) rfl (by omega) (by omega) (by omega) (by omega) (by omega)
      obtain ⟨T1, k1, u1, f1, y1⟩ := putE10 (x := iI t) (r := A.nB) (c := 1) u0 (by omega) (by omega) (by omega) (by omega) (by omega)
      obtain ⟨T2, k2, u2, f2, y2⟩ := putE10 (x := iI p) (r := A.nB) (c := 2) u1 (by omega) (by omega) (by omega) (by omega) (by omega)
      obtain ⟨T3, k3, u3, f3, y3⟩ := putE10 (x := iI 0) (r := A.nB) (c := 3) u2 (by omega) (by omega) (by omega) (by omega) (by omega)
      obtain ⟨T8, k8, u8, f8, y8⟩ := putE10 (x := iI (-9)) (r := A.nB) (c := 8) u3 (by omega) (by omega) (by omega) (by omega) (by omega)
      obtain ⟨T9, k9, u9, f9, y9⟩ := putE10 (x := iI (-9)) (r := A.nB) (c := 9) u8 (by omega) (by omega) (by omega) (by omega) (by omega)
      obtain ⟨T', W, P, l0, l1, l4, l5, lo, lp⟩ := xPay hX hW hn (T := T9) u9 (c := A.R r 2 * p) (v := v) (d := d) (by omega) hv
      have hXf : RepX (V.1, T', W, P, V.2.2.2.2.1, iI (A.t + (A.R r 2 * p - d))) (nb A r t p (A.R r 2 * p) d v) := by
        refine repXnb hX hW hn l1 (fun j j0 j1 => ?_) ?_ ?_ ?_ ?_ l4 l5 ?_ ?_ ?_ lp
        · rw [lo _ j0 (by omega), y9 _ j0 (by omega), y8 _ j0 (by omega), y3 _ j0 (by omega), y2 _ j0 (by omega), y1 _ j0 (by omega), y0 _ j0 (by omega)]
          exact g2 _ (by omega)
        · rw [lo _ (by omega) (by omega), y9 _ (by omega) (by omega), y8 _ (by omega) (by omega), y3 _ (by omega) (by omega), y2 _ (by omega) (by omega), y1 _ (by omega) (by omega)]
          exact f0
        · rw [lo _ (by omega) (by omega), y9 _ (by omega) (by omega), y8 _ (by omega) (by omega), y3 _ (by omega) (by omega), y2 _ (by omega) (by omega)]
          exact f1
        · rw [lo _ (by omega) (by omega), y9 _ (by omega) (by omega), y8 _ (by omega) (by omega), y3 _ (by omega) (by omega)]
          exact f2
        · rw [lo _ (by omega) (by omega), y9 _ (by omega) (by omega), y8 _ (by omega) (by omega)]
          exact f3
        · rw [lo _ (by omega) (by omega), y9 _ (by omega) (by omega), y8 _ (by omega) (by omega), y3 _ (by omega) (by omega), y2 _ (by omega) (by omega), y1 _ (by omega) (by omega), y0 _ (by omega) (by omega)]
          exact g3 _ (by omega) (by omega)
        · rw [lo _ (by omega) (by omega), y9 _ (by omega) (by omega)]
          exact f8
        · rw [lo _ (by omega) (by omega)]
          exact f9
      obtain ⟨s', m1, m2, m3⟩ := mBook (R := R) hM hW hn (r := r) (t := t) (p := p) (c := A.R r 2 * p) (d := d) (v := v) (by omega) (fun z => ⟨(hvb.2.2 z).1, (hvb.2.2 z).2.1⟩)
      have hWf := WF.nbf (hW.mono (K' := K + 1) (by omega) hK) hn (r := r) (t := t) (p := p) (c := A.R r 2 * p) (d := d) (v := v) hr ht (by omega) (by omega) (by omega) hvb.2.2 q1
      have r2 := xR hX hW (r := r) (c := 2) hr.1 hr.2 (by omega) (by omega)
      have mr2 := mRo hMt (r := r) (c := 2) hr.1 (by omega) (by omega) (by omega)
      refine ⟨iI A.nB, _, s', _, ?_, ?_, hXf, m2, hWf, m3⟩
      · clear hXf hWf m1 m2 m3 mr2 hpm lo lp y0 y1 y2 y3 y8 y9 g2 g3 hv hM hMt hX hW
        simp (disch := omega) only [nmD, bdS, b2S, lit32, iA, iS, iM, iN, iLt, iLe, iE, zlT, zlF, zleT, zleF, zeT, zeF, RdI, WrI, DvI, jmaxI, jminI, jabsI, bI0, Zb0, Zb1, ZbI, ↓reduceIte, not_true_eq_false, not_false_eq_true, ite_not, and_true, true_and, and_false, false_and, and_self, fX0_newBooking_j59, hpx, hf, g1, k0, k1, k2, k3, k8, k9, r2, l0]
      · have hvv : ∀ v : Int, 0 ≤ v → v < A.nV → s (501 + 2 * v + 1).toNat = iI (A.V v 1) ∧ 0 ≤ A.V v 1 ∧ A.V v 1 ≤ 500 + 2000 * K := fun v v0 v1 => ⟨hMt.V v0 (by omega) (by omega) (by omega), hW.2.2.2.2.1 v v0 v1⟩
        clear hXf hWf m2 m3 r2 hpx lo lp y0 y1 y2 y3 y8 y9 g2 g3 hM hMt hX hW l0 k0 k1 k2 k3 k8 k9 g1 hf
        rcases hv with ⟨rfl, rfl⟩ | ⟨v0, v1, hd⟩
        · simp (disch := omega) only [nmD, bdS, b2S, lit32, iA, iS, iM, iN, iLt, iLe, iE, zlT, zlF, zleT, zleF, zeT, zeF, RdI, WrI, DvI, jmaxI, jminI, jabsI, bI0, Zb0, Zb1, ZbI, ↓reduceIte, not_true_eq_false, not_false_eq_true, ite_not, and_true, true_and, and_false, false_and, and_self, fX9_doBook_j50, hpm, e1, h1, mr2, m1]
        · obtain ⟨hv1, hv2, hv3⟩ := hvv v v0 v1
          have em : min (A.R r 2 * p) (A.V v 1) = d := hd.symm
          clear hvv hd
          simp (disch := omega) only [nmD, bdS, b2S, lit32, iA, iS, iM, iN, iLt, iLe, iE, zlT, zlF, zleT, zleF, zeT, zeF, RdI, WrI, DvI, jmaxI, jminI, jabsI, bI0, Zb0, Zb1, ZbI, ↓reduceIte, not_true_eq_false, not_false_eq_true, ite_not, and_true, true_and, and_false, false_and, and_self, fX9_doBook_j50, hpm, e1, h1, mr2, m1, hv1, mLess, em]
  · have hpx := hpx.2 q1
    have hpm := hpm.2 q1
    refine agFail hX hM hW hK (r := iI (-2)) ?_ ?_
    · simp (disch := omega) only [nmD, bdS, b2S, lit32, iA, iS, iM, iN, iLt, iLe, iE, zlT, zlF, zleT, zleF, zeT, zeF, RdI, WrI, DvI, jmaxI, jminI, jabsI, bI0, Zb0, Zb1, ZbI, ↓reduceIte, not_true_eq_false, not_false_eq_true, ite_not, and_true, true_and, and_false, false_and, and_self, fX0_newBooking_j59, hpx]
    · simp (disch := omega) only [nmD, bdS, b2S, lit32, iA, iS, iM, iN, iLt, iLe, iE, zlT, zlF, zleT, zleF, zeT, zeF, RdI, WrI, DvI, jmaxI, jminI, jabsI, bI0, Zb0, Zb1, ZbI, ↓reduceIte, not_true_eq_false, not_false_eq_true, ite_not, and_true, true_and, and_false, false_and, and_self, fX9_doBook_j50, hpm]
set_option maxHeartbeats 4000000 in
theorem agBook (hX : RepX V A) (hM : RepM s A) (hW : WF K A) (hK : K + 1 ≤ 80000) (x1 x2 x3 x4 : Int32) : Ag (fX0_newBooking V x1 x2 x3 x4) (fX9_doBook (s, R) x1 x2 x3 x4) s R K := by
  have hN := hW.n
  have hMt : RepM ((s, R) : Md).1 A := hM
  obtain ⟨r, rfl, hr1, hr2⟩ := iX x1
  obtain ⟨t, rfl, ht1, ht2⟩ := iX x2
  obtain ⟨p, rfl, hp1, hp2⟩ := iX x3
  obtain ⟨v, rfl, hv1, hv2⟩ := iX x4
  have hxr := xHasR hX hW hr1 hr2
  have hmr := mIsR hMt hW hr1 hr2
  by_cases q1 : 0 ≤ r ∧ r < A.nR
  · obtain ⟨q1a, q1b⟩ := q1
    have hR := hW.r q1a q1b
    have r3 := xR hX hW (r := r) (c := 3) q1a q1b (by omega) (by omega)
    have mr3 := mRo hMt (r := r) (c := 3) q1a (by omega) (by omega) (by omega)
    by_cases q2 : 0 ≤ t ∧ t ≤ 720
    · by_cases q3 : 2 ≤ p ∧ p ≤ A.R r 3
      · have hxv := xHasV hX hW hv1 hv2
        have hmv := mIsV hMt hW hv1 hv2
        by_cases q4 : v = -1
        · have key := agBook59 (R := R) hX hM hW hK (r := r) (t := t) (p := p) (v := v) (d := 0) ⟨q1a, q1b⟩ q2 q3 (Or.inl ⟨q4, rfl⟩)
          have ex : fX0_newBooking V (iI r) (iI t) (iI p) (iI v) = fX0_newBooking_j59 V (iI r) (iI t) (iI p) (iI v) := by
            clear key
            obtain ⟨q2a, q2b⟩ := q2
            obtain ⟨q3a, q3b⟩ := q3
            simp (disch := omega) only [nmD, bdS, b2S, lit32, iA, iS, iM, iN, iLt, iLe, iE, zlT, zlF, zleT, zleF, zeT, zeF, RdI, WrI, DvI, jmaxI, jminI, jabsI, bI0, Zb0, Zb1, ZbI, ↓reduceIte, not_true_eq_false, not_false_eq_true, ite_not, and_true, true_and, and_false, false_and, and_self, fX0_newBooking, hxr, xIn, r3]
          have em : fX9_doBook (s, R) (iI r) (iI t) (iI p) (iI v) = fX9_doBook_j50 (s, R) (iI r) (iI t) (iI p) (iI v) := by
            clear key ex
            obtain ⟨q2a, q2b⟩ := q2
            obtain ⟨q3a, q3b⟩ := q3
            simp (disch := omega) only [nmD, bdS, b2S, lit32, iA, iS, iM, iN, iLt, iLe, iE, zlT, zlF, zleT, zleF, zeT, zeF, RdI, WrI, DvI, jmaxI, jminI, jabsI, bI0, Zb0, Zb1, ZbI, ↓reduceIte, not_true_eq_false, not_false_eq_true, ite_not, and_true, true_and, and_false, false_and, and_self, fX9_doBook, hmr, mIn, mr3]
          rw [ex, em]
          exact key
        · by_cases q5 : 0 ≤ v ∧ v < A.nV
          · have key := agBook59 (R := R) hX hM hW hK (r := r) (t := t) (p := p) (v := v) (d := min (A.R r 2 * p) (A.V v 1)) ⟨q1a, q1b⟩ q2 q3 (Or.inr ⟨q5.1, q5.2, rfl⟩)
            have ex : fX0_newBooking V (iI r) (iI t) (iI p) (iI v) = fX0_newBooking_j59 V (iI r) (iI t) (iI p) (iI v) := by
              clear key
              obtain ⟨q2a, q2b⟩ := q2
              obtain ⟨q3a, q3b⟩ := q3
              obtain ⟨q5a, q5b⟩ := q5
              simp (disch := omega) only [nmD, bdS, b2S, lit32, iA, iS, iM, iN, iLt, iLe, iE, zlT, zlF, zleT, zleF, zeT, zeF, RdI, WrI, DvI, jmaxI, jminI, jabsI, bI0, Zb0, Zb1, ZbI, ↓reduceIte, not_true_eq_false, not_false_eq_true, ite_not, and_true, true_and, and_false, false_and, and_self, fX0_newBooking, hxr, xIn, r3, hxv]
            have em : fX9_doBook (s, R) (iI r) (iI t) (iI p) (iI v) = fX9_doBook_j50 (s, R) (iI r) (iI t) (iI p) (iI v) := by
              clear key ex
              obtain ⟨q2a, q2b⟩ := q2
              obtain ⟨q3a, q3b⟩ := q3
              obtain ⟨q5a, q5b⟩ := q5
              simp (disch := omega) only [nmD, bdS, b2S, lit32, iA, iS, iM, iN, iLt, iLe, iE, zlT, zlF, zleT, zleF, zeT, zeF, RdI, WrI, DvI, jmaxI, jminI, jabsI, bI0, Zb0, Zb1, ZbI, ↓reduceIte, not_true_eq_false, not_false_eq_true, ite_not, and_true, true_and, and_false, false_and, and_self, fX9_doBook, hmr, mIn, mr3, hmv]
            rw [ex, em]
            exact key
          · obtain ⟨q2a, q2b⟩ := q2
            obtain ⟨q3a, q3b⟩ := q3
            refine agFail hX hM hW hK (r := iI (-1)) ?_ ?_
            · simp (disch := omega) only [nmD, bdS, b2S, lit32, iA, iS, iM, iN, iLt, iLe, iE, zlT, zlF, zleT, zleF, zeT, zeF, RdI, WrI, DvI, jmaxI, jminI, jabsI, bI0, Zb0, Zb1, ZbI, ↓reduceIte, not_true_eq_false, not_false_eq_true, ite_not, and_true, true_and, and_false, false_and, and_self, fX0_newBooking, hxr, xIn, r3, hxv, q5]
            · simp (disch := omega) only [nmD, bdS, b2S, lit32, iA, iS, iM, iN, iLt, iLe, iE, zlT, zlF, zleT, zleF, zeT, zeF, RdI, WrI, DvI, jmaxI, jminI, jabsI, bI0, Zb0, Zb1, ZbI, ↓reduceIte, not_true_eq_false, not_false_eq_true, ite_not, and_true, true_and, and_false, false_and, and_self, fX9_doBook, hmr, mIn, mr3, hmv, q5]
      · refine agFail hX hM hW hK (r := iI (-1)) ?_ ?_
        · simp (disch := omega) only [nmD, bdS, b2S, lit32, iA, iS, iM, iN, iLt, iLe, iE, zlT, zlF, zleT, zleF, zeT, zeF, RdI, WrI, DvI, jmaxI, jminI, jabsI, bI0, Zb0, Zb1, ZbI, ↓reduceIte, not_true_eq_false, not_false_eq_true, ite_not, and_true, true_and, and_false, false_and, and_self, fX0_newBooking, hxr, xIn, r3, q3]
        · simp (disch := omega) only [nmD, bdS, b2S, lit32, iA, iS, iM, iN, iLt, iLe, iE, zlT, zlF, zleT, zleF, zeT, zeF, RdI, WrI, DvI, jmaxI, jminI, jabsI, bI0, Zb0, Zb1, ZbI, ↓reduceIte, not_true_eq_false, not_false_eq_true, ite_not, and_true, true_and, and_false, false_and, and_self, fX9_doBook, hmr, mIn, mr3, q3]
    · refine agFail hX hM hW hK (r := iI (-1)) ?_ ?_
      · simp (disch := omega) only [nmD, bdS, b2S, lit32, iA, iS, iM, iN, iLt, iLe, iE, zlT, zlF, zleT, zleF, zeT, zeF, RdI, WrI, DvI, jmaxI, jminI, jabsI, bI0, Zb0, Zb1, ZbI, ↓reduceIte, not_true_eq_false, not_false_eq_true, ite_not, and_true, true_and, and_false, false_and, and_self, fX0_newBooking, hxr, xIn, q2]
      · simp (disch := omega) only [nmD, bdS, b2S, lit32, iA, iS, iM, iN, iLt, iLe, iE, zlT, zlF, zleT, zleF, zeT, zeF, RdI, WrI, DvI, jmaxI, jminI, jabsI, bI0, Zb0, Zb1, ZbI, ↓reduceIte, not_true_eq_false, not_false_eq_true, ite_not, and_true, true_and, and_false, false_and, and_self, fX9_doBook, hmr, mIn, q2]
  · refine agFail hX hM hW hK (r := iI (-1)) ?_ ?_
    · simp (disch := omega) only [nmD, bdS, b2S, lit32, iA, iS, iM, iN, iLt, iLe, iE, zlT, zlF, zleT, zleF, zeT, zeF, RdI, WrI, DvI, jmaxI, jminI, jabsI, bI0, Zb0, Zb1, ZbI, ↓reduceIte, not_true_eq_false, not_false_eq_true, ite_not, and_true, true_and, and_false, false_and, and_self, fX0_newBooking, hxr, q1]
    · simp (disch := omega) only [nmD, bdS, b2S, lit32, iA, iS, iM, iN, iLt, iLe, iE, zlT, zlF, zleT, zleF, zeT, zeF, RdI, WrI, DvI, jmaxI, jminI, jabsI, bI0, Zb0, Zb1, ZbI, ↓reduceIte, not_true_eq_false, not_false_eq_true, ite_not, and_true, true_and, and_false, false_and, and_self, fX9_doBook, hmr, q1]
end BK
