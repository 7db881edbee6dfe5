/-! A play in the reference, all but the checks. -/
section PM
variable {A : Ab} {K : Int} {s : Nat → Int32} {R : Rs}
theorem playM (hM : RepM s A) (hW : WF K A) (hK : K + 2 ≤ 80000) {f h n g i e w x6 x7 x8 : Int} (h1 : 0 ≤ i) (h2 : i < A.nB) (h3 : A.B i 3 = 0) (hh : 0 ≤ h ∧ h ≤ 20) (hn : 0 ≤ n ∧ n ≤ 200) (hw : 0 ≤ w ∧ w ≤ 9) (he : 0 ≤ e ∧ e ≤ 1000) (y6 : 0 ≤ x6 ∧ x6 ≤ 10000) (y7 : 0 ≤ x7 ∧ x7 ≤ 10000) (y8 : 0 ≤ x8 ∧ x8 ≤ 10000) (hf : (f = 0 ∧ (e ≤ 0 ∨ x7 < x8)) ∨ (f = 1 ∧ 0 < e ∧ x8 ≤ x7)) (hg : (g = 0 ∧ (e ≤ 0 ∨ x8 ≤ x6)) ∨ (g = 1 ∧ 0 < e ∧ x6 < x8)) (ha : 0 ≤ shr A (A.B i 4) (oS A i - A.B i 1) ∧ shr A (A.B i 4) (oS A i - A.B i 1) ≤ A.B i 4) : ∃ s' : Nat → Int32, fX9_doPlay_j129 (s, R) (iI i) (iI e) (iI h) (iI w) (iI (A.B i 0)) (iI x6) (iI x7) (iI x8) (iI n) = some (iI n, (s', R)) ∧ RepM s' (rfA (occ (cts A (A.B i 0) f h n g) i n w) i (shr A (A.B i 4) (oS A i - A.B i 1))) ∧ ∀ j : Nat, 517 ≤ j → s' j = s j := by
  have hN := hW.n
  have hb := hW.2.2.2.1 i h1 h2
  have hr := hb.1
  have hR4 := (hW.2.2.1 _ hr.1 hr.2).2.2.2.2 4 (by omega) (by omega)
  have h4 : 0 ≤ A.B i 4 ∧ A.B i 4 ≤ 1600 := by have := hb.2.2.2.2.1; have := hb.2.2.1; omega
  have hsum := hb.2.2.2.2.2.2 h3
  have hO := wfOcc hW (by omega) (f := f) (h := h) (n := n) (g := g) (w := w) h1 h2 h3 (by omega) hh hn (by omega) hw
  obtain ⟨sc, c1, c2, c3⟩ := mCts (R := R) hM hW (by omega) (n := n) (i := i) (w := w) h1 h2 hh (by omega) hw he y6 y7 y8 hf hg
  have hd : 0 ≤ oS A i - A.B i 1 ∧ oS A i - A.B i 1 ≤ 161000000 := by unfold oS; omega
  have e5 : (occ (cts A (A.B i 0) f h n g) i n w).B i 5 = A.B i 5 := by
    show up2 (up2 (up2 A.B i 3 1) i 7 _) i 8 n i 5 = _
    rw [up2_n _ _ (by omega), up2_n _ _ (by omega), up2_n _ _ (by omega)]
  have e3 : (occ (cts A (A.B i 0) f h n g) i n w).B i 3 = 1 := by
    show up2 (up2 (up2 A.B i 3 1) i 7 _) i 8 n i 3 = _
    rw [up2_n _ _ (by omega), up2_n _ _ (by omega), up2_s]
  have hs := mShr (M := (sc, R)) c1 hO (c := A.B i 4) (d := oS A i - A.B i 1) h4.1 h4.2 hd.1 hd.2
  have hs : fX9_shareOf (sc, R) (iI (A.B i 4)) (iI (oS A i - A.B i 1)) = some (iI (shr A (A.B i 4) (oS A i - A.B i 1))) := hs
  have hz : WF (K + 1) ((occ (cts A (A.B i 0) f h n g) i n w).setB i 3 1) := by
    have : (occ (cts A (A.B i 0) f h n g) i n w).setB i 3 1 = occ (cts A (A.B i 0) f h n g) i n w := by
      have u : up2 (occ (cts A (A.B i 0) f h n g) i n w).B i 3 1 = (occ (cts A (A.B i 0) f h n g) i n w).B := by
        funext j k
        by_cases q : j = i ∧ k = 3
        · rw [q.1, q.2, up2_s, e3]
        · exact if_neg q
      unfold Ab.setB
      rw [u]
      rfl
    rw [this]
    exact hO
  obtain ⟨s', f1, f2, f3⟩ := mRefund (R := R) c1 (z := 1) (by omega) hz (by omega) (i0 := i) (a := shr A (A.B i 4) (oS A i - A.B i 1)) h1 h2 ha.1 (by omega) (by rw [e5]; show _ ≤ A.B i 5 + rsum A i; omega)
  refine ⟨s', ?_, f2, fun j hj => by rw [f3 j hj, c2 j hj]⟩
  rw [c3, hs, bdS, f1, bdS]
end PM
