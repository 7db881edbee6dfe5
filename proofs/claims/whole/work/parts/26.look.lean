/-! Shares, slack, hints, free times. -/
theorem mulb {a b X Y : Int} (h1 : 0 ≤ a) (h2 : a ≤ X) (h3 : 0 ≤ b) (h4 : b ≤ Y) : 0 ≤ a * b ∧ a * b ≤ X * Y := by
  refine ⟨Int.mul_nonneg h1 h3, ?_⟩
  exact Int.mul_le_mul h2 h4 h3 (by omega)
def shr (A : Ab) (c d : Int) : Int := if 0 < d - A.S 3 then c * min 100 ((d - A.S 3 + 9) / 10 * A.S 4) / 100 else 0
section SH
variable {A : Ab} {K : Int}
theorem shr_b (hW : WF K A) {c d : Int} (h1 : 0 ≤ c) (h2 : 0 ≤ d) : 0 ≤ shr A c d ∧ shr A c d ≤ c := by
  have hs := hW.s
  unfold shr
  split
  · have q1 := Int.mul_nonneg (a := (d - A.S 3 + 9) / 10) (b := A.S 4) (by omega) (by omega)
    have q2 : 0 ≤ min 100 ((d - A.S 3 + 9) / 10 * A.S 4) ∧ min 100 ((d - A.S 3 + 9) / 10 * A.S 4) ≤ 100 := by omega
    have q3 := mulb h1 (Int.le_refl c) q2.1 q2.2
    omega
  · omega
theorem mShr {M : Md} (h : RepM M.1 A) (hW : WF K A) {c d : Int} (h1 : 0 ≤ c) (h2 : c ≤ 1600) (h3 : 0 ≤ d) (h4 : d ≤ 161000000) : fX9_shareOf M (iI c) (iI d) = some (iI (shr A c d)) := by
  have hs := hW.s
  have e7 : (7 : Int).toNat = 7 := rfl
  have e8 : (8 : Int).toNat = 8 := rfl
  have q1 := mulb (a := (d - A.S 3 + 9) / 10) (b := A.S 4) (X := 16100001) (Y := 50)
  have q2 := mulb (a := c) (b := min 100 ((d - A.S 3 + 9) / 10 * A.S 4)) (X := 1600) (Y := 100) h1 h2
  unfold shr
  by_cases k : 0 < d - A.S 3
  · have q1 := q1 (by omega) (by omega) (by omega) (by omega)
    have q2 := q2 (by omega) (by omega)
    rw [if_pos k]
    simp (disch := omega) only [nmD, bdS, b2S, lit32, iA, iS, iM, iN, iLt, iLe, iE, zlT, zlF, zleT, zleF, zeT, zeF, RdI, WrI, DvI, jmaxI, jminI, jabsI, bI0, Zb0, Zb1, ZbI, ↓reduceIte, not_true_eq_false, not_false_eq_true, ite_not, and_true, true_and, and_false, false_and, and_self, fX9_shareOf, fX9_shareOf_j43, e7, e8, h.s3, h.s4, mLess]
  · clear q1 q2
    rw [if_neg k]
    simp (disch := omega) only [nmD, bdS, b2S, lit32, iA, iS, iM, iN, iLt, iLe, iE, zlT, zlF, zleT, zleF, zeT, zeF, RdI, WrI, DvI, jmaxI, jminI, jabsI, bI0, Zb0, Zb1, ZbI, ↓reduceIte, not_true_eq_false, not_false_eq_true, ite_not, and_true, true_and, and_false, false_and, and_self, fX9_shareOf, fX9_shareOf_j43, e7, e8, h.s3, h.s4, mLess]
theorem xShr {V : Vn} (h : RepX V A) (hW : WF K A) {i d : Int} (h1 : 0 ≤ i) (h2 : i < A.nB) (h3 : 0 ≤ d) (h4 : d ≤ 161000000) : fX7_refundForDelay V (iI i) (iI d) = some (iI (shr A (A.B i 4) d)) := by
  have hs := hW.s
  have hb := hW.b h1 h2
  have q1 := mulb (a := (d - A.S 3 + 9) / 10) (b := A.S 4) (X := 16100001) (Y := 50)
  have q2 := mulb (a := A.B i 4) (b := min 100 ((d - A.S 3 + 9) / 10 * A.S 4)) (X := 1600) (Y := 100) (by omega) (by omega)
  unfold shr
  by_cases k : 0 < d - A.S 3
  · have q1 := q1 (by omega) (by omega) (by omega) (by omega)
    have q2 := q2 (by omega) (by omega)
    rw [if_pos k]
    simp (disch := omega) only [nmD, bdS, b2S, lit32, iA, iS, iM, iN, iLt, iLe, iE, zlT, zlF, zleT, zleF, zeT, zeF, RdI, WrI, DvI, jmaxI, jminI, jabsI, bI0, Zb0, Zb1, ZbI, ↓reduceIte, not_true_eq_false, not_false_eq_true, ite_not, and_true, true_and, and_false, false_and, and_self, fX7_refundForDelay, xset h, xB h hW]
  · clear q1 q2
    rw [if_neg k]
    simp (disch := omega) only [nmD, bdS, b2S, lit32, iA, iS, iM, iN, iLt, iLe, iE, zlT, zlF, zleT, zleF, zeT, zeF, RdI, WrI, DvI, jmaxI, jminI, jabsI, bI0, Zb0, Zb1, ZbI, ↓reduceIte, not_true_eq_false, not_false_eq_true, ite_not, and_true, true_and, and_false, false_and, and_self, fX7_refundForDelay, xset h, xB h hW]
theorem stt_b (hW : WF K A) {w later : Int} (hw : Good A w w) (hl : 0 ≤ later) (hl2 : later ≤ 1000) : A.B w 1 ≤ stt A w later ∧ stt A w later ≤ 161000000 := by
  have hn := hW.n
  have hw1 := hw.1
  have hw2 := hw.2.1
  have hwr := hW.b hw.1 hw.2.1
  have hr := hW.r hwr.1.1 hwr.1.2
  have hg := good_first hW hw
  have hgb := hW.b hg.1 hg.2.1
  have key : ∀ (n : Nat) (f b : Int), Good A w b → A.B w 1 - A.B b 1 < n → 0 ≤ f → f ≤ 160010000 + 200 * A.B b 1 → 0 ≤ fcs A w n f b ∧ fcs A w n f b ≤ 161000000 := by
    intro n
    induction n with
    | zero =>
      intro f b hb h1
      have := hb.2.2.2.2
      omega
    | succ n ih =>
      intro f b hb h1 h2 h3
      have hbb := hW.b hb.1 hb.2.1
      rw [fcs_s]
      by_cases c : b = w
      · rw [if_pos c]; omega
      · rw [if_neg c]
        obtain ⟨g1, g2⟩ := good_step hW hw hb c
        exact ih _ _ g1 (by omega) (by omega) (by omega)
  have h := key 721 (A.R (A.B w 0) 4 + later) (nx A (A.B w 0) (-1)) hg (by omega) (by omega) (by omega)
  unfold stt
  omega
/-- no booking has more delay than the first one -/
theorem stt_first (hW : WF K A) {w later : Int} (hw : Good A w w) (hl : 0 ≤ later) : stt A w later - A.B w 1 ≤ max 0 (A.R (A.B w 0) 4 + later - A.B (nx A (A.B w 0) (-1)) 1) := by
  have hwr := hW.b hw.1 hw.2.1
  have hr := hW.r hwr.1.1 hwr.1.2
  have hg := good_first hW hw
  have hgb := hW.b hg.1 hg.2.1
  have key : ∀ (n : Nat) (f b D : Int), Good A w b → A.B w 1 - A.B b 1 < n → 0 ≤ D → f - A.B b 1 ≤ D → fcs A w n f b - A.B w 1 ≤ D := by
    intro n
    induction n with
    | zero =>
      intro f b D hb h1
      have := hb.2.2.2.2
      omega
    | succ n ih =>
      intro f b D hb h1 h2 h3
      rw [fcs_s]
      by_cases c : b = w
      · rw [if_pos c]; subst c; exact h3
      · rw [if_neg c]
        obtain ⟨g1, g2⟩ := good_step hW hw hb c
        exact ih _ _ D g1 (by omega) h2 (by omega)
  have h := key 721 (A.R (A.B w 0) 4 + later) (nx A (A.B w 0) (-1)) (max 0 (A.R (A.B w 0) 4 + later - A.B (nx A (A.B w 0) (-1)) 1)) hg (by omega) (by omega) (by omega)
  unfold stt
  omega
theorem stt_one (hW : WF K A) {w later : Int} (hw : Good A w w) (he : nx A (A.B w 0) (-1) = w) : stt A w later = max (A.R (A.B w 0) 4 + later) (A.B w 1) := by
  unfold stt
  rw [he, fcs_s, if_pos rfl]
end SH
section LATE
variable {M : Md} {A : Ab} {K : Int}
def LateA (A : Ab) (room later j : Int) : Prop := A.B j 0 = room ∧ A.B j 3 = 0 ∧ A.S 3 < stt A j later - A.B j 1
theorem good_self {w : Int} (h1 : 0 ≤ w) (h2 : w < A.nB) (h3 : A.B w 3 = 0) : Good A w w := ⟨h1, h2, rfl, h3, Int.le_refl _⟩
set_option maxHeartbeats 4000000 in
theorem mLate_l (h : RepM M.1 A) (hW : WF K A) {room later : Int} (hr : 0 ≤ room ∧ room < A.nR) (hl : 0 ≤ later ∧ later ≤ 1000) : ∀ (k fu : Nat) (i a : Int), 0 ≤ i → i + k = A.nB → k < fu → 0 ≤ a → a ≤ 1 → ∃ c : Int, fX9_isLate_l5 M (iI room) (iI later) fu (iI a) (iI i) = some (iI c) ∧ ((c = 0 ∧ a = 0 ∧ ∀ j : Int, i ≤ j → j < A.nB → ¬ LateA A room later j) ∨ (c = 1 ∧ (a = 1 ∨ ∃ j : Int, i ≤ j ∧ j < A.nB ∧ LateA A room later j))) := by
  have hn := hW.n
  have hs := hW.s
  have e1 : (1 : Int).toNat = 1 := rfl
  have e7 : (7 : Int).toNat = 7 := rfl
  intro k
  induction k with
  | zero =>
    intro fu i a h0 h1 h2 h3 h4
    obtain ⟨fu, rfl⟩ : ∃ q, fu = q + 1 := ⟨fu - 1, by omega⟩
    rw [fX9_isLate_l5_s]
    by_cases c : a = 0
    · subst c
      refine ⟨0, ?_, Or.inl ⟨rfl, rfl, fun j q1 q2 => by omega⟩⟩
      simp (disch := omega) only [nmD, bdS, b2S, lit32, iA, iS, iM, iN, iLt, iLe, iE, zlT, zlF, zleT, zleF, zeT, zeF, RdI, WrI, DvI, jmaxI, jminI, jabsI, bI0, Zb0, Zb1, ZbI, ↓reduceIte, not_true_eq_false, not_false_eq_true, ite_not, and_true, true_and, and_false, false_and, and_self, e1, h.n1]
    · obtain rfl : a = 1 := by omega
      refine ⟨1, ?_, Or.inr ⟨rfl, Or.inl rfl⟩⟩
      simp (disch := omega) only [nmD, bdS, b2S, lit32, iA, iS, iM, iN, iLt, iLe, iE, zlT, zlF, zleT, zleF, zeT, zeF, RdI, WrI, DvI, jmaxI, jminI, jabsI, bI0, Zb0, Zb1, ZbI, ↓reduceIte, not_true_eq_false, not_false_eq_true, ite_not, and_true, true_and, and_false, false_and, and_self, e1, h.n1]
  | succ k ih =>
    intro fu i a h0 h1 h2 h3 h4
    obtain ⟨fu, rfl⟩ : ∃ q, fu = q + 1 := ⟨fu - 1, by omega⟩
    have hi := hW.b h0 (by omega)
    have yes : ∀ _ : Unit, (a = 1 ∨ LateA A room later i) → ∃ c : Int, fX9_isLate_l5 M (iI room) (iI later) fu (iI 1) (iI (i + 1)) = some (iI c) ∧ ((c = 0 ∧ a = 0 ∧ ∀ j : Int, i ≤ j → j < A.nB → ¬ LateA A room later j) ∨ (c = 1 ∧ (a = 1 ∨ ∃ j : Int, i ≤ j ∧ j < A.nB ∧ LateA A room later j))) := by
      intro _ hp
      obtain ⟨c, q1, q2⟩ := ih fu (i + 1) 1 (by omega) (by omega) (by omega) (by omega) (by omega)
      refine ⟨c, q1, ?_⟩
      rcases q2 with ⟨-, q3, -⟩ | ⟨q2, -⟩
      · omega
      · rcases hp with hp | hp
        · exact Or.inr ⟨q2, Or.inl hp⟩
        · exact Or.inr ⟨q2, Or.inr ⟨i, by omega, by omega, hp⟩⟩
    have no : ∀ _ : Unit, a = 0 → ¬ LateA A room later i → ∃ c : Int, fX9_isLate_l5 M (iI room) (iI later) fu (iI 0) (iI (i + 1)) = some (iI c) ∧ ((c = 0 ∧ a = 0 ∧ ∀ j : Int, i ≤ j → j < A.nB → ¬ LateA A room later j) ∨ (c = 1 ∧ (a = 1 ∨ ∃ j : Int, i ≤ j ∧ j < A.nB ∧ LateA A room later j))) := by
      intro _ ha hp
      obtain ⟨c, q1, q2⟩ := ih fu (i + 1) 0 (by omega) (by omega) (by omega) (by omega) (by omega)
      refine ⟨c, q1, ?_⟩
      rcases q2 with ⟨q2, -, q4⟩ | ⟨q2, q3⟩
      · refine Or.inl ⟨q2, ha, fun j j1 j2 => ?_⟩
        by_cases e : j = i
        · subst e; exact hp
        · exact q4 j (by omega) j2
      · refine Or.inr ⟨q2, ?_⟩
        rcases q3 with q3 | ⟨j, j1, j2, j3⟩
        · omega
        · exact Or.inr ⟨j, by omega, j2, j3⟩
    clear ih
    by_cases c0 : a = 1
    · have e : fX9_isLate_l5 M (iI room) (iI later) (fu + 1) (iI a) (iI i) = fX9_isLate_l5 M (iI room) (iI later) fu (iI 1) (iI (i + 1)) := by
        rw [fX9_isLate_l5_s]
        simp (disch := omega) only [nmD, bdS, b2S, lit32, iA, iS, iM, iN, iLt, iLe, iE, zlT, zlF, zleT, zleF, zeT, zeF, RdI, WrI, DvI, jmaxI, jminI, jabsI, bI0, Zb0, Zb1, ZbI, ↓reduceIte, not_true_eq_false, not_false_eq_true, ite_not, and_true, true_and, and_false, false_and, and_self, e1, h.n1, fX9_isLate_j66, fX9_isLate_j71]
      rw [e]
      exact yes () (Or.inl c0)
    · obtain rfl : a = 0 := by omega
      by_cases c1 : A.B i 0 = room
      · by_cases c2 : A.B i 3 = 0
        · have hg := good_self (A := A) h0 (by omega) c2
          have hsb := stt_b hW hg hl.1 hl.2
          by_cases c3 : stt A i later - A.B i 1 ≤ A.S 3
          · have e : fX9_isLate_l5 M (iI room) (iI later) (fu + 1) (iI 0) (iI i) = fX9_isLate_l5 M (iI room) (iI later) fu (iI 0) (iI (i + 1)) := by
              rw [fX9_isLate_l5_s]
              simp (disch := omega) only [nmD, bdS, b2S, lit32, iA, iS, iM, iN, iLt, iLe, iE, zlT, zlF, zleT, zleF, zeT, zeF, RdI, WrI, DvI, jmaxI, jminI, jabsI, bI0, Zb0, Zb1, ZbI, ↓reduceIte, not_true_eq_false, not_false_eq_true, ite_not, and_true, true_and, and_false, false_and, and_self, e1, e7, h.n1, h.s3, mBo h, mSt h hW hg hl.1 hl.2, fX9_isLate_j70, fX9_isLate_j71]
            rw [e]
            exact no () rfl (fun q => by have := q.2.2; omega)
          · have e : fX9_isLate_l5 M (iI room) (iI later) (fu + 1) (iI 0) (iI i) = fX9_isLate_l5 M (iI room) (iI later) fu (iI 1) (iI (i + 1)) := by
              rw [fX9_isLate_l5_s]
              simp (disch := omega) only [nmD, bdS, b2S, lit32, iA, iS, iM, iN, iLt, iLe, iE, zlT, zlF, zleT, zleF, zeT, zeF, RdI, WrI, DvI, jmaxI, jminI, jabsI, bI0, Zb0, Zb1, ZbI, ↓reduceIte, not_true_eq_false, not_false_eq_true, ite_not, and_true, true_and, and_false, false_and, and_self, e1, e7, h.n1, h.s3, mBo h, mSt h hW hg hl.1 hl.2, fX9_isLate_j66, fX9_isLate_j71]
            rw [e]
            exact yes () (Or.inr ⟨c1, c2, by omega⟩)
        · have e : fX9_isLate_l5 M (iI room) (iI later) (fu + 1) (iI 0) (iI i) = fX9_isLate_l5 M (iI room) (iI later) fu (iI 0) (iI (i + 1)) := by
            rw [fX9_isLate_l5_s]
            simp (disch := omega) only [nmD, bdS, b2S, lit32, iA, iS, iM, iN, iLt, iLe, iE, zlT, zlF, zleT, zleF, zeT, zeF, RdI, WrI, DvI, jmaxI, jminI, jabsI, bI0, Zb0, Zb1, ZbI, ↓reduceIte, not_true_eq_false, not_false_eq_true, ite_not, and_true, true_and, and_false, false_and, and_self, e1, h.n1, mBo h, fX9_isLate_j70, fX9_isLate_j71]
          rw [e]
          exact no () rfl (fun q => c2 q.2.1)
      · have e : fX9_isLate_l5 M (iI room) (iI later) (fu + 1) (iI 0) (iI i) = fX9_isLate_l5 M (iI room) (iI later) fu (iI 0) (iI (i + 1)) := by
          rw [fX9_isLate_l5_s]
          simp (disch := omega) only [nmD, bdS, b2S, lit32, iA, iS, iM, iN, iLt, iLe, iE, zlT, zlF, zleT, zleF, zeT, zeF, RdI, WrI, DvI, jmaxI, jminI, jabsI, bI0, Zb0, Zb1, ZbI, ↓reduceIte, not_true_eq_false, not_false_eq_true, ite_not, and_true, true_and, and_false, false_and, and_self, e1, h.n1, mBo h, fX9_isLate_j70, fX9_isLate_j71]
        rw [e]
        exact no () rfl (fun q => c1 q.1)
/-- with a first booking b: a room is late with L more if b is -/
theorem mLate (h : RepM M.1 A) (hW : WF K A) {room later : Int} (hr : 0 ≤ room ∧ room < A.nR) (hl : 0 ≤ later ∧ later ≤ 1000) (hb : nx A room (-1) ≠ -9) : (A.S 3 < A.R room 4 + later - A.B (nx A room (-1)) 1 → fX9_isLate M (iI room) (iI later) = some (iI 1)) ∧ (A.R room 4 + later - A.B (nx A room (-1)) 1 ≤ A.S 3 → fX9_isLate M (iI room) (iI later) = some (iI 0)) := by
  have hn := hW.n
  have hs := hW.s
  obtain ⟨c, h1, h2⟩ := mLate_l h hW hr hl A.nB.toNat FU 0 0 (by omega) (by omega) (by unfold FU; omega) (by omega) (by omega)
  have e : fX9_isLate M (iI room) (iI later) = some (iI c) := by
    have e0 : (0 : Int32) = iI 0 := rfl
    unfold fX9_isLate
    rw [e0]
    exact h1
  have hf : 0 ≤ nx A room (-1) ∧ nx A room (-1) < A.nB ∧ Cand A room (-1) (nx A room (-1)) := by
    rcases nxU hW room (-1) with ⟨q, -⟩ | ⟨q1, q2, q3, -⟩
    · exact absurd q hb
    · exact ⟨q1, q2, q3⟩
  obtain ⟨f1, f2, f3, f4, f5⟩ := hf
  have hg := good_self (A := A) f1 f2 f4
  have h1 := stt_one hW (later := later) hg (by rw [f3])
  rw [f3] at h1
  refine ⟨fun q => ?_, fun q => ?_⟩
  · rcases h2 with ⟨-, -, q4⟩ | ⟨q2, -⟩
    · exact absurd ⟨f3, f4, by rw [h1]; omega⟩ (q4 _ f1 f2)
    · rw [e, q2]
  · rcases h2 with ⟨q2, -⟩ | ⟨q2, q3⟩
    · rw [e, q2]
    · rcases q3 with q3 | ⟨j, j1, j2, j3, j4, j5⟩
      · omega
      · have h3 := stt_first hW (later := later) (good_self (A := A) j1 j2 j4) hl.1
        rw [j3] at h3
        omega
end LATE
