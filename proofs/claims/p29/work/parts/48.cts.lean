/-! The class's counts of a room at a play. -/
def bump (A : Ab) (r c x : Int) : Ab := A.setR r c (A.R r c + x)
def cts (A : Ab) (r f h n g : Int) : Ab := bump (bump (bump (bump (bump A r 5 1) r 6 f) r 7 h) r 8 n) r 10 g
theorem bump_R (A : Ab) {r c x k : Int} (h : k < c ∨ c < k) : (bump A r c x).R r k = A.R r k := up2_n _ _ (by omega)
section CT
variable {V : Vn} {A : Ab} {K : Int}
theorem xBump (hX : RepX V A) (hW : WF K A) {r c x : Int} (h1 : 0 ≤ r) (h2 : r < A.nR) (h3 : 0 ≤ c) (h4 : c < 11) : ∃ T : Tb, fX6_raise 44 (iI 4) (iI 11) V.1 (iI r) (iI c) (iI x) = some T ∧ RepX (T, V.2) (bump A r c x) := ⟨_, raiseR hX hW h1 h2 h3 h4, RepX.setR hX h1 h2 h3 h4⟩
theorem wfBump (hW : WF K A) {r c x : Int} (hc : 4 ≤ c) (h1 : 0 ≤ A.R r c + x) (h2 : A.R r c + x ≤ 2000 * K) : WF K (bump A r c x) := hW.setR4 hc h1 h2
theorem wfCts (hW : WF K A) (hK : K + 1 ≤ 80000) {r f h n g : Int} (h1 : 0 ≤ r) (h2 : r < A.nR) (hf : 0 ≤ f ∧ f ≤ 1) (hh : 0 ≤ h ∧ h ≤ 20) (hn : 0 ≤ n ∧ n ≤ 1000) (hg : 0 ≤ g ∧ g ≤ 1) : WF (K + 1) (bump A r 5 1) ∧ WF (K + 1) (bump (bump A r 5 1) r 6 f) ∧ WF (K + 1) (bump (bump (bump A r 5 1) r 6 f) r 7 h) ∧ WF (K + 1) (bump (bump (bump (bump A r 5 1) r 6 f) r 7 h) r 8 n) ∧ WF (K + 1) (cts A r f h n g) := by
  have hw := (hW.2.2.1 r h1 h2).2.2.2.2
  have w5 := hw 5 (by omega) (by omega)
  have w6 := hw 6 (by omega) (by omega)
  have w7 := hw 7 (by omega) (by omega)
  have w8 := hw 8 (by omega) (by omega)
  have w10 := hw 10 (by omega) (by omega)
  have a5 := wfBump (hW.mono (K' := K + 1) (by omega) hK) (r := r) (c := 5) (x := 1) (by omega) (by omega) (by omega)
  have a6 := wfBump a5 (r := r) (c := 6) (x := f) (by omega) (by rw [bump_R _ (by omega)]; omega) (by rw [bump_R _ (by omega)]; omega)
  have a7 := wfBump a6 (r := r) (c := 7) (x := h) (by omega) (by rw [bump_R _ (by omega), bump_R _ (by omega)]; omega) (by rw [bump_R _ (by omega), bump_R _ (by omega)]; omega)
  have a8 := wfBump a7 (r := r) (c := 8) (x := n) (by omega) (by rw [bump_R _ (by omega), bump_R _ (by omega), bump_R _ (by omega)]; omega) (by rw [bump_R _ (by omega), bump_R _ (by omega), bump_R _ (by omega)]; omega)
  have a10 := wfBump a8 (r := r) (c := 10) (x := g) (by omega) (by rw [bump_R _ (by omega), bump_R _ (by omega), bump_R _ (by omega), bump_R _ (by omega)]; omega) (by rw [bump_R _ (by omega), bump_R _ (by omega), bump_R _ (by omega), bump_R _ (by omega)]; omega)
  exact ⟨a5, a6, a7, a8, a10⟩
set_option maxHeartbeats 4000000 in
theorem xCts (hX : RepX V A) (hW : WF K A) (hK : K + 1 ≤ 80000) {r f h n g i e w x6 x7 x8 : Int} (h1 : 0 ≤ r) (h2 : r < A.nR) (hh : 0 ≤ h ∧ h ≤ 20) (hn : 0 ≤ n ∧ n ≤ 1000) (he : 0 ≤ e ∧ e ≤ 1000) (y6 : 0 ≤ x6 ∧ x6 ≤ 10000) (y7 : 0 ≤ x7 ∧ x7 ≤ 10000) (y8 : 0 ≤ x8 ∧ x8 ≤ 10000) (hf : (f = 0 ∧ (e ≤ 0 ∨ x7 < x8)) ∨ (f = 1 ∧ 0 < e ∧ x8 ≤ x7)) (hg : (g = 0 ∧ (e ≤ 0 ∨ x8 ≤ x6)) ∨ (g = 1 ∧ 0 < e ∧ x6 < x8)) : ∃ Vc : Vn, RepX Vc (cts A r f h n g) ∧ fX0_letPlay_j146 V (iI i) (iI e) (iI h) (iI w) (iI r) (iI x6) (iI x7) (iI x8) (iI n) = b2 (fX0_occupy Vc (iI i) (iI n) (iI w)) fun r35 M34 => (fX7_refundForDelay M34 (iI i) r35).bind fun r36 => (fX0_refund M34 (iI i) r36).bind fun M37 => some (iI n, M37) := by
  obtain ⟨a5, a6, a7, a8, a10⟩ := wfCts hW hK (r := r) (f := f) (h := h) (n := n) (g := g) h1 h2 (by omega) hh hn (by omega)
  obtain ⟨T5, k5, z5⟩ := xBump hX hW (r := r) (c := 5) (x := 1) h1 h2 (by omega) (by omega)
  obtain ⟨T6, k6, z6⟩ := xBump z5 a5 (r := r) (c := 6) (x := f) h1 h2 (by omega) (by omega)
  obtain ⟨T7, k7, z7⟩ := xBump z6 a6 (r := r) (c := 7) (x := h) h1 h2 (by omega) (by omega)
  obtain ⟨T8, k8, z8⟩ := xBump z7 a7 (r := r) (c := 8) (x := n) h1 h2 (by omega) (by omega)
  obtain ⟨T10, k10, z10⟩ := xBump z8 a8 (r := r) (c := 10) (x := g) h1 h2 (by omega) (by omega)
  refine ⟨(T10, V.2), z10, ?_⟩
  have k6 : fX6_raise 44 (iI 4) (iI 11) T5 (iI r) (iI 6) (iI f) = some T6 := k6
  have k7 : fX6_raise 44 (iI 4) (iI 11) T6 (iI r) (iI 7) (iI h) = some T7 := k7
  have k8 : fX6_raise 44 (iI 4) (iI 11) T7 (iI r) (iI 8) (iI n) = some T8 := k8
  have k10 : fX6_raise 44 (iI 4) (iI 11) T8 (iI r) (iI 10) (iI g) = some T10 := k10
  clear a5 a6 a7 a8 a10 z5 z6 z7 z8 z10 hX hW
  rcases hf with ⟨rfl, c1⟩ | ⟨rfl, c1, c2⟩
  · rcases hg with ⟨rfl, d1⟩ | ⟨rfl, d1, d2⟩
    · by_cases c : e ≤ 0
      · simp (disch := omega) only [nmD, bdS, b2S, lit32, iA, iS, iM, iN, iLt, iLe, iE, zlT, zlF, zleT, zleF, zeT, zeF, RdI, WrI, DvI, jmaxI, jminI, jabsI, bI0, Zb0, Zb1, ZbI, ↓reduceIte, not_true_eq_false, not_false_eq_true, ite_not, and_true, true_and, and_false, false_and, and_self, fX0_letPlay_j146, fX0_letPlay_j182, fX0_letPlay_j183, fX0_letPlay_j234, fX0_letPlay_j235, k5, k6, k7, k8, k10]
      · have c1 : x7 < x8 := by omega
        have d1 : x8 ≤ x6 := by omega
        simp (disch := omega) only [nmD, bdS, b2S, lit32, iA, iS, iM, iN, iLt, iLe, iE, zlT, zlF, zleT, zleF, zeT, zeF, RdI, WrI, DvI, jmaxI, jminI, jabsI, bI0, Zb0, Zb1, ZbI, ↓reduceIte, not_true_eq_false, not_false_eq_true, ite_not, and_true, true_and, and_false, false_and, and_self, fX0_letPlay_j146, fX0_letPlay_j182, fX0_letPlay_j183, fX0_letPlay_j234, fX0_letPlay_j235, k5, k6, k7, k8, k10]
    · have c1 : x7 < x8 := by omega
      simp (disch := omega) only [nmD, bdS, b2S, lit32, iA, iS, iM, iN, iLt, iLe, iE, zlT, zlF, zleT, zleF, zeT, zeF, RdI, WrI, DvI, jmaxI, jminI, jabsI, bI0, Zb0, Zb1, ZbI, ↓reduceIte, not_true_eq_false, not_false_eq_true, ite_not, and_true, true_and, and_false, false_and, and_self, fX0_letPlay_j146, fX0_letPlay_j182, fX0_letPlay_j183, fX0_letPlay_j234, fX0_letPlay_j235, k5, k6, k7, k8, k10]
  · rcases hg with ⟨rfl, d1⟩ | ⟨rfl, d1, d2⟩
    · have d1 : x8 ≤ x6 := by omega
      simp (disch := omega) only [nmD, bdS, b2S, lit32, iA, iS, iM, iN, iLt, iLe, iE, zlT, zlF, zleT, zleF, zeT, zeF, RdI, WrI, DvI, jmaxI, jminI, jabsI, bI0, Zb0, Zb1, ZbI, ↓reduceIte, not_true_eq_false, not_false_eq_true, ite_not, and_true, true_and, and_false, false_and, and_self, fX0_letPlay_j146, fX0_letPlay_j182, fX0_letPlay_j183, fX0_letPlay_j234, fX0_letPlay_j235, k5, k6, k7, k8, k10]
    · simp (disch := omega) only [nmD, bdS, b2S, lit32, iA, iS, iM, iN, iLt, iLe, iE, zlT, zlF, zleT, zleF, zeT, zeF, RdI, WrI, DvI, jmaxI, jminI, jabsI, bI0, Zb0, Zb1, ZbI, ↓reduceIte, not_true_eq_false, not_false_eq_true, ite_not, and_true, true_and, and_false, false_and, and_self, fX0_letPlay_j146, fX0_letPlay_j182, fX0_letPlay_j183, fX0_letPlay_j234, fX0_letPlay_j235, k5, k6, k7, k8, k10]
end CT
