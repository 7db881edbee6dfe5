/-! A merge: the action. -/
section AJ
variable {V : Vn} {A : Ab} {K : Int}
set_option maxHeartbeats 4000000 in
theorem xJoin {i j : Int} (hX : RepX V A) (hW : WF K A) (hi : 0 ≤ i ∧ i < A.nB) (hj : 0 ≤ j ∧ j < A.nB) (hij : i < j ∨ j < i) (si : A.B i 3 = 0) (sj : A.B j 3 = 0) (he : A.B i 0 = A.B j 0) (hp : A.B i 2 + A.B j 2 ≤ A.R (A.B j 0) 3) : ∃ V' : Vn, fX0_joinTeams V (iI i) (iI j) = some (iI (A.B i 2 + A.B j 2), V') ∧ RepX V' (jn A i j) := by
  have hN := hW.n
  have hl := hW.l16
  have hbi := hW.b hi.1 hi.2
  have hbj := hW.b hj.1 hj.2
  have hr3 := (hW.r hbj.1.1 hbj.1.2).2.2.2.1
  have b1 := xHasB hX hW (x := i) (by omega) (by omega)
  have b2 := xHasB hX hW (x := j) (by omega) (by omega)
  have d1 := xBooked hX hW hi.1 hi.2
  have d2 := xBooked hX hW hj.1 hj.2
  have i0 := xB hX hW (i := i) (c := 0) hi.1 hi.2 (by omega) (by omega)
  have j0 := xB hX hW (i := j) (c := 0) hj.1 hj.2 (by omega) (by omega)
  have i2 := xB hX hW (i := i) (c := 2) hi.1 hi.2 (by omega) (by omega)
  have j2 := xB hX hW (i := j) (c := 2) hj.1 hj.2 (by omega) (by omega)
  have r3 := xR hX hW (r := A.B j 0) (c := 3) hbj.1.1 hbj.1.2 (by omega) (by omega)
  have hx : RepX V (mkA A.R A.B A.V A.S A.rows A.F A.U A.nR A.nB A.nV A.t) := hX
  obtain ⟨T1, k1, z1⟩ := xHand hx hl.1 (c := 2) hi hj hij (by omega) rfl rfl rfl
  obtain ⟨T2, k2, z2⟩ := xHand z1 hl.1 (c := 4) (a := A.B i 4) (b := A.B j 4) hi hj hij (by omega) (by rw [up2_n _ _ (by omega), up2_n _ _ (by omega)]) (by rw [up2_n _ _ (by omega), up2_n _ _ (by omega)]) rfl
  obtain ⟨T3, k3, z3⟩ := xHand z2 hl.1 (c := 5) (a := A.B i 5) (b := A.B j 5) hi hj hij (by omega) (by rw [up2_n _ _ (by omega), up2_n _ _ (by omega), up2_n _ _ (by omega), up2_n _ _ (by omega)]) (by rw [up2_n _ _ (by omega), up2_n _ _ (by omega), up2_n _ _ (by omega), up2_n _ _ (by omega)]) rfl
  have k2 : fX0_handOver (V.1, T1, V.2.2) (iI i) (iI j) (iI 4) = some (V.1, T2, V.2.2) := k2
  have k3 : fX0_handOver (V.1, T2, V.2.2) (iI i) (iI j) (iI 5) = some (V.1, T3, V.2.2) := k3
  have z3 : RepX (V.1, T3, V.2.2) (mkA A.R (jB A i j) A.V A.S A.rows A.F A.U A.nR A.nB A.nV A.t) := z3
  clear z1 z2
  have xl : fX7_paymentsLeft (V.1, T3, V.2.2) (iI j) = some (iI (len (A.rows j))) := by
    rw [plCong2, xLeft hX hW hj.1 hj.2, cn_full hW hj.1 hj.2 sj]
  obtain ⟨nP, pb, pq, pl, hP⟩ := hX.P
  have hpn := hP.n hW
  obtain ⟨T', f1, f2⟩ := xHop (A := A) (nP := nP) (pb := pb) (pq := pq) (pl := pl) (i := i) (j := j) (a := len (A.rows j)) hpn.2 (by omega) (fun y y0 y1 => by have := (hP.b hW y0 y1).1; omega) V T3 nP.toNat FU 0 V.2.2.2.1 (by omega) (by omega) (by unfold FU; omega) ⟨hP.1, fun y y0 y1 => by
    obtain ⟨q0, q1, q2, q3, -⟩ := hP.2.2.2.1 y y0 y1
    rw [if_neg (by omega), if_neg (by omega)]
    exact ⟨q0, q1, q2, q3⟩⟩
  have f1 : fX0_handOverPayments_l12 (iI i) (iI j) (iI (len (A.rows j))) FU (V.1, T3, V.2.2) (iI 0) = some (V.1, T3, V.2.2.1, T', V.2.2.2.2) := f1
  have p3 := putI10 (T := T3) (r := i) (c := 3) (x := iI 3) z3.2.1 hl.1 hi.1 hi.2 (by omega) (by omega)
  have zq : RepX (V.1, T3, V.2.2.1, T', V.2.2.2.2) (mkA A.R (jB A i j) A.V A.S (jL A i j) A.F A.U A.nR A.nB A.nV A.t) := ⟨z3.1, z3.2.1, z3.2.2.1, z3.2.2.2.1, z3.2.2.2.2.1, z3.2.2.2.2.2.1, z3.2.2.2.2.2.2.1, z3.2.2.2.2.2.2.2.1, z3.2.2.2.2.2.2.2.2.1, nP, _, _, _, PP.join hP hW hi hj hij f2⟩
  have zf := fxB zq (i := i) (c := 3) (v := 3) hi.1 hi.2 (by omega) (by omega)
  refine ⟨_, ?_, zf⟩
  clear zf zq f2 z3 hP hx hX hW hl
  obtain ⟨hi1, hi2⟩ := hi
  obtain ⟨hj1, hj2⟩ := hj
  simp (disch := omega) only [nmD, bdS, b2S, lit32, iA, iS, iM, iN, iLt, iLe, iE, zlT, zlF, zleT, zleF, zeT, zeF, RdI, WrI, DvI, jmaxI, jminI, jabsI, bI0, Zb0, Zb1, ZbI, ↓reduceIte, not_true_eq_false, not_false_eq_true, ite_not, and_true, true_and, and_false, false_and, and_self, fX0_joinTeams, b1, b2, j0, d1, d2, si, sj, i0, he, i2, j2, r3, k1, k2, k3, fX0_handOverPayments, xl, f1, p3]
end AJ
