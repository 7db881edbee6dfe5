/-! The class's room after a play. -/
def oS (A : Ab) (i : Int) : Int := max (A.B i 1) (A.R (A.B i 0) 4)
def oE (A : Ab) (i n w : Int) : Int := oS A i + n + (A.R (A.B i 0) 1 + w * A.S 2)
def occ (A : Ab) (i n w : Int) : Ab := ((((A.setR (A.B i 0) 4 (oE A i n w)).setR (A.B i 0) 9 (max (oS A i - A.B i 1) (A.R (A.B i 0) 9))).setB i 3 1).setB i 7 (oS A i)).setB i 8 n
section OC
variable {V : Vn} {A : Ab} {K : Int}
set_option maxHeartbeats 4000000 in
theorem xOcc (hX : RepX V A) (hW : WF K A) {i n w : Int} (h1 : 0 ≤ i) (h2 : i < A.nB) (hn1 : 0 ≤ n) (hn2 : n ≤ 1000) (hw1 : 0 ≤ w) (hw2 : w ≤ 9) : ∃ V' : Vn, fX0_occupy V (iI i) (iI n) (iI w) = some (iI (oS A i - A.B i 1), V') ∧ RepX V' (occ A i n w) := by
  have hn := hW.n
  have hs := hW.s
  have hr : 0 ≤ A.B i 0 ∧ A.B i 0 < A.nR := (hW.2.2.2.1 i h1 h2).1
  have hp : 0 ≤ A.B i 1 ∧ A.B i 1 ≤ 720 := (hW.2.2.2.1 i h1 h2).2.1
  have hR4 := (hW.2.2.1 _ hr.1 hr.2).2.2.2.2 4 (by omega) (by omega)
  have hR9 := (hW.2.2.1 _ hr.1 hr.2).2.2.2.2 9 (by omega) (by omega)
  have hR1 := (hW.2.2.1 _ hr.1 hr.2).2.1
  have hm := mulb (a := w) (b := A.S 2) (X := 9) (Y := 20) (by omega) (by omega) (by omega) (by omega)
  have b0 := xB hX hW (i := i) (c := 0) h1 h2 (by omega) (by omega)
  have b1 := xB hX hW (i := i) (c := 1) h1 h2 (by omega) (by omega)
  have r4 := xR hX hW (r := A.B i 0) (c := 4) hr.1 hr.2 (by omega) (by omega)
  have r1 := xR hX hW (r := A.B i 0) (c := 1) hr.1 hr.2 (by omega) (by omega)
  have r9 : fX6_cell 44 (iI 4) (iI 11) (V.1.1, upd V.1.2 (A.B i 0 * 11 + 4).toNat (iI (oE A i n w))) (iI (A.B i 0)) (iI 9) = some (iI (A.R (A.B i 0) 9)) := by
    rw [cellI11 (T := (V.1.1, upd V.1.2 (A.B i 0 * 11 + 4).toNat (iI (oE A i n w)))) hX.uR (by omega) hr.1 hr.2 (by omega) (by omega)]
    show some (upd V.1.2 (A.B i 0 * 11 + 4).toNat (iI (oE A i n w)) (A.B i 0 * 11 + 9).toNat) = _
    rw [ud_n (by omega), hX.2.2.2.2.2.1 _ 9 hr.1 hr.2 (by omega) (by omega)]
  have p4 := putI11 (T := V.1) (r := A.B i 0) (c := 4) (x := iI (oE A i n w)) hX.uR (by omega) hr.1 hr.2 (by omega) (by omega)
  have p9 := putI11 (T := (V.1.1, upd V.1.2 (A.B i 0 * 11 + 4).toNat (iI (oE A i n w)))) (r := A.B i 0) (c := 9) (x := iI (max (oS A i - A.B i 1) (A.R (A.B i 0) 9))) hX.uR (by omega) hr.1 hr.2 (by omega) (by omega)
  have q3 := putI10 (T := V.2.1) (r := i) (c := 3) (x := iI 1) hX.uB (by omega) h1 h2 (by omega) (by omega)
  have q8 := putI10 (T := (V.2.1.1, upd V.2.1.2 (i * 10 + 3).toNat (iI 1))) (r := i) (c := 8) (x := iI (oS A i)) hX.uB (by omega) h1 h2 (by omega) (by omega)
  have q9 := putI10 (T := (V.2.1.1, upd (upd V.2.1.2 (i * 10 + 3).toNat (iI 1)) (i * 10 + 8).toNat (iI (oS A i)))) (r := i) (c := 9) (x := iI n) hX.uB (by omega) h1 h2 (by omega) (by omega)
  have s2 := xset hX (k := 2) (by omega) (by omega)
  have x1 := RepX.setR hX (r := A.B i 0) (c := 4) (v := oE A i n w) hr.1 hr.2 (by omega) (by omega)
  have x2 := RepX.setR x1 (r := A.B i 0) (c := 9) (v := max (oS A i - A.B i 1) (A.R (A.B i 0) 9)) hr.1 hr.2 (by omega) (by omega)
  have x3 := RepX.setB x2 (i := i) (c := 3) (v := 1) h1 h2 (by omega) (by omega) (by omega)
  have x4 := RepX.setB x3 (i := i) (c := 8) (v := oS A i) h1 h2 (by omega) (by omega) (by omega)
  have x5 := RepX.setB x4 (i := i) (c := 9) (v := n) h1 h2 (by omega) (by omega) (by omega)
  refine ⟨_, ?_, x5⟩
  clear x1 x2 x3 x4 x5
  unfold oE oS at *
  simp (disch := omega) only [nmD, bdS, b2S, lit32, iA, iS, iM, iN, iLt, iLe, iE, zlT, zlF, zleT, zleF, zeT, zeF, RdI, WrI, DvI, jmaxI, jminI, jabsI, bI0, Zb0, Zb1, ZbI, ↓reduceIte, not_true_eq_false, not_false_eq_true, ite_not, and_true, true_and, and_false, false_and, and_self, fX0_occupy, b0, b1, r4, r1, s2, p4, r9, p9, q3, q8, q9]
end OC
