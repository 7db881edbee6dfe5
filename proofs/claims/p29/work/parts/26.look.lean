/-! Shares, slack, hints, free times. -/
theorem mulb {a b X Y : Int} (h1 : 0 ≤ a) (h2 : a ≤ X) (h3 : 0 ≤ b) (h4 : b ≤ Y) : 0 ≤ a * b ∧ a * b ≤ X * Y := by
  refine ⟨Int.mul_nonneg h1 h3, ?_⟩
  exact Int.mul_le_mul h2 h4 h3 (by omega)
def shr (A : Ab) (c d : Int) : Int := if 0 < d - A.S 3 then c * min 100 ((d - A.S 3 + 9) / 10 * A.S 4) / 100 else 0
section SH
variable {A : Ab} {K : Int}
theorem shr_b (hW : WF K A) {c d : Int} (h1 : 0 ≤ c) (h2 : 0 ≤ d) : 0 ≤ shr A c d ∧ shr A c d ≤ c := by
  have hs := hW.s
  unfold shr
  split
  · have q1 := Int.mul_nonneg (a := (d - A.S 3 + 9) / 10) (b := A.S 4) (by omega) (by omega)
    have q2 : 0 ≤ min 100 ((d - A.S 3 + 9) / 10 * A.S 4) ∧ min 100 ((d - A.S 3 + 9) / 10 * A.S 4) ≤ 100 := by omega
    have q3 := mulb h1 (Int.le_refl c) q2.1 q2.2
    omega
  · omega
theorem xShr {V : Vn} (h : RepX V A) (hW : WF K A) {i d : Int} (h1 : 0 ≤ i) (h2 : i < A.nB) (h3 : 0 ≤ d) (h4 : d ≤ 161000000) : fX7_refundForDelay V (iI i) (iI d) = some (iI (shr A (A.B i 4) d)) := by
  have hs := hW.s
  have hb := hW.b h1 h2
  have q1 := mulb (a := (d - A.S 3 + 9) / 10) (b := A.S 4) (X := 16100001) (Y := 50)
  have q2 := mulb (a := A.B i 4) (b := min 100 ((d - A.S 3 + 9) / 10 * A.S 4)) (X := 1600) (Y := 100) (by omega) (by omega)
  unfold shr
  by_cases k : 0 < d - A.S 3
  · have q1 := q1 (by omega) (by omega) (by omega) (by omega)
    have q2 := q2 (by omega) (by omega)
    rw [if_pos k]
    simp (disch := omega) only [nmD, bdS, b2S, lit32, iA, iS, iM, iN, iLt, iLe, iE, zlT, zlF, zleT, zleF, zeT, zeF, RdI, WrI, DvI, jmaxI, jminI, jabsI, bI0, Zb0, Zb1, ZbI, ↓reduceIte, not_true_eq_false, not_false_eq_true, ite_not, and_true, true_and, and_false, false_and, and_self, fX7_refundForDelay, xset h, xB h hW]
  · clear q1 q2
    rw [if_neg k]
    simp (disch := omega) only [nmD, bdS, b2S, lit32, iA, iS, iM, iN, iLt, iLe, iE, zlT, zlF, zleT, zleF, zeT, zeF, RdI, WrI, DvI, jmaxI, jminI, jabsI, bI0, Zb0, Zb1, ZbI, ↓reduceIte, not_true_eq_false, not_false_eq_true, ite_not, and_true, true_and, and_false, false_and, and_self, fX7_refundForDelay, xset h, xB h hW]
theorem stt_b (hW : WF K A) {w later : Int} (hw : Good A w w) (hl : 0 ≤ later) (hl2 : later ≤ 1000) : A.B w 1 ≤ stt A w later ∧ stt A w later ≤ 161000000 := by
  have hn := hW.n
  have hw1 := hw.1
  have hw2 := hw.2.1
  have hwr := hW.b hw.1 hw.2.1
  have hr := hW.r hwr.1.1 hwr.1.2
  have hg := good_first hW hw
  have hgb := hW.b hg.1 hg.2.1
  have key : ∀ (n : Nat) (f b : Int), Good A w b → A.B w 1 - A.B b 1 < n → 0 ≤ f → f ≤ 160010000 + 200 * A.B b 1 → 0 ≤ fcs A w n f b ∧ fcs A w n f b ≤ 161000000 := by
    intro n
    induction n with
    | zero =>
      intro f b hb h1
      have := hb.2.2.2.2
      omega
    | succ n ih =>
      intro f b hb h1 h2 h3
      have hbb := hW.b hb.1 hb.2.1
      rw [fcs_s]
      by_cases c : b = w
      · rw [if_pos c]; omega
      · rw [if_neg c]
        obtain ⟨g1, g2⟩ := good_step hW hw hb c
        exact ih _ _ g1 (by omega) (by omega) (by omega)
  have h := key 721 (A.R (A.B w 0) 4 + later) (nx A (A.B w 0) (-1)) hg (by omega) (by omega) (by omega)
  unfold stt
  omega
/-- no booking has more delay than the first one -/
theorem stt_first (hW : WF K A) {w later : Int} (hw : Good A w w) (hl : 0 ≤ later) : stt A w later - A.B w 1 ≤ max 0 (A.R (A.B w 0) 4 + later - A.B (nx A (A.B w 0) (-1)) 1) := by
  have hwr := hW.b hw.1 hw.2.1
  have hr := hW.r hwr.1.1 hwr.1.2
  have hg := good_first hW hw
  have hgb := hW.b hg.1 hg.2.1
  have key : ∀ (n : Nat) (f b D : Int), Good A w b → A.B w 1 - A.B b 1 < n → 0 ≤ D → f - A.B b 1 ≤ D → fcs A w n f b - A.B w 1 ≤ D := by
    intro n
    induction n with
    | zero =>
      intro f b D hb h1
      have := hb.2.2.2.2
      omega
    | succ n ih =>
      intro f b D hb h1 h2 h3
      rw [fcs_s]
      by_cases c : b = w
      · rw [if_pos c]; subst c; exact h3
      · rw [if_neg c]
        obtain ⟨g1, g2⟩ := good_step hW hw hb c
        exact ih _ _ D g1 (by omega) h2 (by omega)
  have h := key 721 (A.R (A.B w 0) 4 + later) (nx A (A.B w 0) (-1)) (max 0 (A.R (A.B w 0) 4 + later - A.B (nx A (A.B w 0) (-1)) 1)) hg (by omega) (by omega) (by omega)
  unfold stt
  omega
theorem stt_one (hW : WF K A) {w later : Int} (hw : Good A w w) (he : nx A (A.B w 0) (-1) = w) : stt A w later = max (A.R (A.B w 0) 4 + later) (A.B w 1) := by
  unfold stt
  rw [he, fcs_s, if_pos rfl]
end SH
section LATE
variable {A : Ab} {K : Int}
def LateA (A : Ab) (room later j : Int) : Prop := A.B j 0 = room ∧ A.B j 3 = 0 ∧ A.S 3 < stt A j later - A.B j 1
theorem good_self {w : Int} (h1 : 0 ≤ w) (h2 : w < A.nB) (h3 : A.B w 3 = 0) : Good A w w := ⟨h1, h2, rfl, h3, Int.le_refl _⟩
end LATE
