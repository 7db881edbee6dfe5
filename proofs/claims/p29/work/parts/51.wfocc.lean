/-! A venue after a play keeps WF. -/
section WO2
variable {A : Ab} {K : Int}
theorem wfOcc (hW : WF K A) (hK : K + 1 ≤ 80000) {i f h n g w : Int} (h1 : 0 ≤ i) (h2 : i < A.nB) (h3 : A.B i 3 = 0) (hf : 0 ≤ f ∧ f ≤ 1) (hh : 0 ≤ h ∧ h ≤ 20) (hn : 0 ≤ n ∧ n ≤ 200) (hg : 0 ≤ g ∧ g ≤ 1) (hw : 0 ≤ w ∧ w ≤ 9) : WF (K + 1) (occ (cts A (A.B i 0) f h n g) i n w) := by
  have hN := hW.n
  have hS := hW.s
  have hr : 0 ≤ A.B i 0 ∧ A.B i 0 < A.nR := (hW.2.2.2.1 i h1 h2).1
  have hp : 0 ≤ A.B i 1 ∧ A.B i 1 ≤ 720 := (hW.2.2.2.1 i h1 h2).2.1
  have hR4 := (hW.2.2.1 _ hr.1 hr.2).2.2.2.2 4 (by omega) (by omega)
  have hR9 := (hW.2.2.1 _ hr.1 hr.2).2.2.2.2 9 (by omega) (by omega)
  have hR1 := (hW.2.2.1 _ hr.1 hr.2).2.1
  have hm := mulb (a := w) (b := A.S 2) (X := 9) (Y := 20) (by omega) (by omega) (by omega) (by omega)
  have hc := (wfCts hW hK (r := A.B i 0) (f := f) (h := h) (n := n) (g := g) hr.1 hr.2 hf hh (by omega) hg).2.2.2.2
  have k4 := cts_R A (A.B i 0) f h n g (k := 4) (by omega)
  have k9 := cts_R A (A.B i 0) f h n g (k := 9) (by omega)
  have k1 := cts_R A (A.B i 0) f h n g (k := 1) (by omega)
  have o1 : 0 ≤ oS A i ∧ oS A i ≤ 2000 * K + 720 := by unfold oS; omega
  have eS : oS (cts A (A.B i 0) f h n g) i = oS A i := by
    show max (A.B i 1) ((cts A (A.B i 0) f h n g).R (A.B i 0) 4) = _
    rw [k4]; rfl
  have eE : oE (cts A (A.B i 0) f h n g) i n w = oE A i n w := by
    unfold oE
    rw [eS]
    show oS A i + n + ((cts A (A.B i 0) f h n g).R (A.B i 0) 1 + w * A.S 2) = _
    rw [k1]
  have o2 : 0 ≤ oE A i n w ∧ oE A i n w ≤ 2000 * (K + 1) := by unfold oE; omega
  have a4 := hc.setR4 (r := A.B i 0) (c := 4) (v := oE A i n w) (by omega) o2.1 o2.2
  have a9 := a4.setR4 (r := A.B i 0) (c := 9) (v := max (oS A i - A.B i 1) (A.R (A.B i 0) 9)) (by omega) (by omega) (by omega)
  have b3 := a9.setB3 (i := i) (v := 1) h1 h2 h3 (by omega) (by omega)
  have b7 := b3.setB6 (i := i) (c := 7) (v := oS A i) (by omega)
  have b8 := b7.setB6 (i := i) (c := 8) (v := n) (by omega)
  rw [occ_cts, cts_setR]
  exact b8
end WO2
