/-! A play, both sides, all but the checks. -/
section PL
variable {V : Vn} {A : Ab} {K : Int}
theorem playX (hX : RepX V A) (hW : WF K A) (hK : K + 2 ≤ 80000) {f h n g i e w x6 x7 x8 : Int} (h1 : 0 ≤ i) (h2 : i < A.nB) (h3 : A.B i 3 = 0) (hh : 0 ≤ h ∧ h ≤ 20) (hn : 0 ≤ n ∧ n ≤ 200) (hw : 0 ≤ w ∧ w ≤ 9) (he : 0 ≤ e ∧ e ≤ 1000) (y6 : 0 ≤ x6 ∧ x6 ≤ 10000) (y7 : 0 ≤ x7 ∧ x7 ≤ 10000) (y8 : 0 ≤ x8 ∧ x8 ≤ 10000) (hf : (f = 0 ∧ (e ≤ 0 ∨ x7 < x8)) ∨ (f = 1 ∧ 0 < e ∧ x8 ≤ x7)) (hg : (g = 0 ∧ (e ≤ 0 ∨ x8 ≤ x6)) ∨ (g = 1 ∧ 0 < e ∧ x6 < x8)) (ha : 0 ≤ shr A (A.B i 4) (oS A i - A.B i 1) ∧ shr A (A.B i 4) (oS A i - A.B i 1) ≤ A.B i 4) : ∃ V' : Vn, fX0_letPlay_j146 V (iI i) (iI e) (iI h) (iI w) (iI (A.B i 0)) (iI x6) (iI x7) (iI x8) (iI n) = some (iI n, V') ∧ RepX V' (rfA (occ (cts A (A.B i 0) f h n g) i n w) i (shr A (A.B i 4) (oS A i - A.B i 1))) := by
  have hN := hW.n
  have hb := hW.2.2.2.1 i h1 h2
  have hr := hb.1
  have hR4 := (hW.2.2.1 _ hr.1 hr.2).2.2.2.2 4 (by omega) (by omega)
  have h16 : A.B i 4 ≤ 1600 := by have := hb.2.2.2.2.1; have := hb.2.2.1; omega
  have hsum := hb.2.2.2.2.2.2 h3
  have hO := wfOcc hW (by omega) (f := f) (h := h) (n := n) (g := g) (w := w) h1 h2 h3 (by omega) hh hn (by omega) hw
  obtain ⟨Vc, hc1, hc2⟩ := xCts hX hW (by omega) (n := n) (i := i) (w := w) hr.1 hr.2 hh (by omega) he y6 y7 y8 hf hg
  have hc := (wfCts hW (by omega) (r := A.B i 0) (f := f) (h := h) (n := n) (g := g) hr.1 hr.2 (by omega) hh (by omega) (by omega)).2.2.2.2
  obtain ⟨Vo, ho1, ho2⟩ := xOcc hc1 hc (i := i) (n := n) (w := w) h1 h2 hn.1 (by omega) hw.1 hw.2
  have eS : oS (cts A (A.B i 0) f h n g) i = oS A i := by
    show max (A.B i 1) ((cts A (A.B i 0) f h n g).R (A.B i 0) 4) = _
    rw [cts_R _ _ _ _ _ _ (by omega)]; rfl
  have ho1 : fX0_occupy Vc (iI i) (iI n) (iI w) = some (iI (oS A i - A.B i 1), Vo) := by
    rw [ho1, eS]; rfl
  have hd : 0 ≤ oS A i - A.B i 1 ∧ oS A i - A.B i 1 ≤ 161000000 := by unfold oS; omega
  have e4 : (occ (cts A (A.B i 0) f h n g) i n w).B i 4 = A.B i 4 := by
    show up2 (up2 (up2 A.B i 3 1) i 7 _) i 8 n i 4 = _
    rw [up2_n _ _ (by omega), up2_n _ _ (by omega), up2_n _ _ (by omega)]
  have e5 : (occ (cts A (A.B i 0) f h n g) i n w).B i 5 = A.B i 5 := by
    show up2 (up2 (up2 A.B i 3 1) i 7 _) i 8 n i 5 = _
    rw [up2_n _ _ (by omega), up2_n _ _ (by omega), up2_n _ _ (by omega)]
  have e3 : (occ (cts A (A.B i 0) f h n g) i n w).B i 3 = 1 := by
    show up2 (up2 (up2 A.B i 3 1) i 7 _) i 8 n i 3 = _
    rw [up2_n _ _ (by omega), up2_n _ _ (by omega), up2_s]
  have hs := xShr ho2 hO (i := i) h1 h2 hd.1 hd.2
  rw [e4] at hs
  have hs : fX7_refundForDelay Vo (iI i) (iI (oS A i - A.B i 1)) = some (iI (shr A (A.B i 4) (oS A i - A.B i 1))) := hs
  obtain ⟨V', g1, g2⟩ := xRefund ho2 hO (by omega) (i := i) (a := shr A (A.B i 4) (oS A i - A.B i 1)) h1 h2 (by rw [e3]; omega) ha.1 (by omega) (by rw [e5]; show _ ≤ A.B i 5 + rsum A i; omega)
  refine ⟨V', ?_, g2⟩
  rw [hc2, ho1, b2S, hs, bdS, g1, bdS]
end PL
