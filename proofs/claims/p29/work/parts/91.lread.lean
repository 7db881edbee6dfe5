/-! What the law reads of its rows: possible times, delays, shares, what is paid. -/
section LMY
variable {L : La} {A : Ab} {G K : Int}
theorem nl_of {room fr : Int} (h : nx A room (fr - 1) ≠ -9) : nl A room fr = nx A room (fr - 1) := if_neg h
set_option maxHeartbeats 2000000 in
theorem lMay_s (h : RepL L A G) (hW : WF K A) (hm : Sma A) {room time but : Int} (hr : 0 ≤ room ∧ room < A.nR) (ht : 0 ≤ time ∧ time ≤ 1000) (hb : -1 ≤ but ∧ but < 100) {i : Int} (h0 : 0 ≤ i) (h1 : i < A.nB) (fu : Nat) : ∃ s : Int, (s = 0 ∨ s = 1) ∧ (s = 1 ↔ PosA A room time but i) ∧ fL_may_l23 L (iI room) (iI time) (iI but) (iI (A.R room 0 + A.R room 1)) (fu + 1) (iI 1) (iI i) = fL_may_l23 L (iI room) (iI time) (iI but) (iI (A.R room 0 + A.R room 1)) fu (iI s) (iI (i + 1)) := by
  have hn := hW.n
  obtain ⟨m1, m2, m3⟩ := hm
  obtain ⟨hr1, hr2⟩ := hr
  obtain ⟨ht1, ht2⟩ := ht
  obtain ⟨hb1, hb2⟩ := hb
  have hbw := hW.b h0 h1
  have hrw := hW.r hr1 hr2
  have hab := iabs_le (x := A.B i 1 - time)
  have g1 := h.g1
  have b0 := h.B0 h0 h1
  have b1 := h.B (i := i) (c := 1) h0 h1 (by omega) (by omega)
  have b3 := h.B (i := i) (c := 3) h0 h1 (by omega) (by omega)
  clear h
  rw [fL_may_l23_s]
  by_cases c1 : i = but
  · refine ⟨1, Or.inr rfl, ⟨fun _ => fun q => absurd c1 q, fun _ => rfl⟩, ?_⟩
    simp (disch := omega) only [MoI, nmD, bdS, b2S, lit32, iA, iS, iM, iN, iLt, iLe, iE, zlT, zlF, zleT, zleF, zeT, zeF, RdI, WrI, DvI, jmaxI, jminI, jabsI, bI0, Zb0, Zb1, ZbI, ↓reduceIte, not_true_eq_false, not_false_eq_true, ite_not, and_true, true_and, and_false, false_and, and_self, g1, b0, b1, b3, c1, fL_may_j77, fL_may_j78, fL_may_j129, fL_may_j134]
  · by_cases c2 : A.B i 0 = room
    · by_cases c3 : 2 ≤ A.B i 3
      · refine ⟨1, Or.inr rfl, ⟨fun _ => fun _ _ q => by omega, fun _ => rfl⟩, ?_⟩
        simp (disch := omega) only [MoI, nmD, bdS, b2S, lit32, iA, iS, iM, iN, iLt, iLe, iE, zlT, zlF, zleT, zleF, zeT, zeF, RdI, WrI, DvI, jmaxI, jminI, jabsI, bI0, Zb0, Zb1, ZbI, ↓reduceIte, not_true_eq_false, not_false_eq_true, ite_not, and_true, true_and, and_false, false_and, and_self, g1, b0, b1, b3, c2, fL_may_j77, fL_may_j78, fL_may_j129, fL_may_j134]
      · have fin : ∀ s : Int, (s = 1 ↔ (A.R room 0 + A.R room 1 ≤ iabs (A.B i 1 - time) ∧ (A.B i 3 = 0 ∨ A.B i 1 < time))) → (s = 1 ↔ PosA A room time but i) := fun s q => ⟨fun z => fun _ _ _ => q.mp z, fun z => q.mpr (z c1 c2 (by omega))⟩
        by_cases c4 : A.B i 1 + (A.R room 0 + A.R room 1) ≤ time
        · by_cases c5 : A.B i 3 = 0
          · refine ⟨1, Or.inr rfl, fin 1 ⟨fun _ => ⟨by omega, by omega⟩, fun _ => rfl⟩, ?_⟩
            clear fin
            simp (disch := omega) only [MoI, nmD, bdS, b2S, lit32, iA, iS, iM, iN, iLt, iLe, iE, zlT, zlF, zleT, zleF, zeT, zeF, RdI, WrI, DvI, jmaxI, jminI, jabsI, bI0, Zb0, Zb1, ZbI, ↓reduceIte, not_true_eq_false, not_false_eq_true, ite_not, and_true, true_and, and_false, false_and, and_self, g1, b0, b1, b3, c2, c5, fL_may_j78, fL_may_j110, fL_may_j129, fL_may_j133, fL_may_j134]
          · refine ⟨1, Or.inr rfl, fin 1 ⟨fun _ => ⟨by omega, by omega⟩, fun _ => rfl⟩, ?_⟩
            clear fin
            simp (disch := omega) only [MoI, nmD, bdS, b2S, lit32, iA, iS, iM, iN, iLt, iLe, iE, zlT, zlF, zleT, zleF, zeT, zeF, RdI, WrI, DvI, jmaxI, jminI, jabsI, bI0, Zb0, Zb1, ZbI, ↓reduceIte, not_true_eq_false, not_false_eq_true, ite_not, and_true, true_and, and_false, false_and, and_self, g1, b0, b1, b3, c2, c5, fL_may_j78, fL_may_j110, fL_may_j129, fL_may_j133, fL_may_j134]
        · by_cases c6 : A.B i 1 < time + (A.R room 0 + A.R room 1)
          · refine ⟨0, Or.inl rfl, fin 0 ⟨fun z => by omega, fun z => by omega⟩, ?_⟩
            clear fin
            simp (disch := omega) only [MoI, nmD, bdS, b2S, lit32, iA, iS, iM, iN, iLt, iLe, iE, zlT, zlF, zleT, zleF, zeT, zeF, RdI, WrI, DvI, jmaxI, jminI, jabsI, bI0, Zb0, Zb1, ZbI, ↓reduceIte, not_true_eq_false, not_false_eq_true, ite_not, and_true, true_and, and_false, false_and, and_self, g1, b0, b1, b3, c2, fL_may_j78, fL_may_j110, fL_may_j129, fL_may_j133, fL_may_j134]
          · by_cases c5 : A.B i 3 = 0
            · refine ⟨1, Or.inr rfl, fin 1 ⟨fun _ => ⟨by omega, by omega⟩, fun _ => rfl⟩, ?_⟩
              clear fin
              simp (disch := omega) only [MoI, nmD, bdS, b2S, lit32, iA, iS, iM, iN, iLt, iLe, iE, zlT, zlF, zleT, zleF, zeT, zeF, RdI, WrI, DvI, jmaxI, jminI, jabsI, bI0, Zb0, Zb1, ZbI, ↓reduceIte, not_true_eq_false, not_false_eq_true, ite_not, and_true, true_and, and_false, false_and, and_self, g1, b0, b1, b3, c2, c5, fL_may_j78, fL_may_j110, fL_may_j129, fL_may_j133, fL_may_j134]
            · refine ⟨0, Or.inl rfl, fin 0 ⟨fun z => by omega, fun z => by omega⟩, ?_⟩
              clear fin
              simp (disch := omega) only [MoI, nmD, bdS, b2S, lit32, iA, iS, iM, iN, iLt, iLe, iE, zlT, zlF, zleT, zleF, zeT, zeF, RdI, WrI, DvI, jmaxI, jminI, jabsI, bI0, Zb0, Zb1, ZbI, ↓reduceIte, not_true_eq_false, not_false_eq_true, ite_not, and_true, true_and, and_false, false_and, and_self, g1, b0, b1, b3, c2, c5, fL_may_j78, fL_may_j110, fL_may_j129, fL_may_j133, fL_may_j134]
    · refine ⟨1, Or.inr rfl, ⟨fun _ => fun _ q => absurd q c2, fun _ => rfl⟩, ?_⟩
      simp (disch := omega) only [MoI, nmD, bdS, b2S, lit32, iA, iS, iM, iN, iLt, iLe, iE, zlT, zlF, zleT, zleF, zeT, zeF, RdI, WrI, DvI, jmaxI, jminI, jabsI, bI0, Zb0, Zb1, ZbI, ↓reduceIte, not_true_eq_false, not_false_eq_true, ite_not, and_true, true_and, and_false, false_and, and_self, g1, b0, b1, b3, fL_may_j77, fL_may_j78, fL_may_j129, fL_may_j134]
theorem lMay_0 (h : RepL L A G) (hW : WF K A) (hm : Sma A) {room time but wide : Int} (hr : 0 ≤ room ∧ room < A.nR) (hb : -1 ≤ but ∧ but < 100) : ∀ (k fu : Nat) (i : Int), 0 ≤ i → i + k = A.nB → k < fu → fL_may_l23 L (iI room) (iI time) (iI but) (iI wide) fu (iI 0) (iI i) = some (iI 0) := by
  have hn := hW.n
  have g1 := h.g1
  obtain ⟨m1, m2, m3⟩ := hm
  obtain ⟨hr1, hr2⟩ := hr
  obtain ⟨hb1, hb2⟩ := hb
  intro k
  induction k with
  | zero =>
    intro fu i h0 h1 h2
    obtain ⟨fu, rfl⟩ : ∃ q, fu = q + 1 := ⟨fu - 1, by omega⟩
    rw [fL_may_l23_s]
    simp (disch := omega) only [MoI, nmD, bdS, b2S, lit32, iA, iS, iM, iN, iLt, iLe, iE, zlT, zlF, zleT, zleF, zeT, zeF, RdI, WrI, DvI, jmaxI, jminI, jabsI, bI0, Zb0, Zb1, ZbI, ↓reduceIte, not_true_eq_false, not_false_eq_true, ite_not, and_true, true_and, and_false, false_and, and_self, g1]
  | succ k ih =>
    intro fu i h0 h1 h2
    obtain ⟨fu, rfl⟩ : ∃ q, fu = q + 1 := ⟨fu - 1, by omega⟩
    have h3 : i < A.nB := by omega
    have := ih fu (i + 1) (by omega) (by omega) (by omega)
    have hbw := hW.b h0 h3
    have b0 := h.B0 h0 h3
    have b1 := h.B (i := i) (c := 1) h0 h3 (by omega) (by omega)
    have b3 := h.B (i := i) (c := 3) h0 h3 (by omega) (by omega)
    rw [← this, fL_may_l23_s]
    clear ih this h
    by_cases c1 : i = but
    · simp (disch := omega) only [MoI, nmD, bdS, b2S, lit32, iA, iS, iM, iN, iLt, iLe, iE, zlT, zlF, zleT, zleF, zeT, zeF, RdI, WrI, DvI, jmaxI, jminI, jabsI, bI0, Zb0, Zb1, ZbI, ↓reduceIte, not_true_eq_false, not_false_eq_true, ite_not, and_true, true_and, and_false, false_and, and_self, g1, b0, b1, b3, c1, fL_may_j77, fL_may_j78, fL_may_j133, fL_may_j134]
    · by_cases c2 : A.B i 0 = room
      · by_cases c3 : 2 ≤ A.B i 3
        · simp (disch := omega) only [MoI, nmD, bdS, b2S, lit32, iA, iS, iM, iN, iLt, iLe, iE, zlT, zlF, zleT, zleF, zeT, zeF, RdI, WrI, DvI, jmaxI, jminI, jabsI, bI0, Zb0, Zb1, ZbI, ↓reduceIte, not_true_eq_false, not_false_eq_true, ite_not, and_true, true_and, and_false, false_and, and_self, g1, b0, b1, b3, c2, fL_may_j77, fL_may_j78, fL_may_j133, fL_may_j134]
        · simp (disch := omega) only [MoI, nmD, bdS, b2S, lit32, iA, iS, iM, iN, iLt, iLe, iE, zlT, zlF, zleT, zleF, zeT, zeF, RdI, WrI, DvI, jmaxI, jminI, jabsI, bI0, Zb0, Zb1, ZbI, ↓reduceIte, not_true_eq_false, not_false_eq_true, ite_not, and_true, true_and, and_false, false_and, and_self, g1, b0, b1, b3, c2, fL_may_j78, fL_may_j133, fL_may_j134]
      · simp (disch := omega) only [MoI, nmD, bdS, b2S, lit32, iA, iS, iM, iN, iLt, iLe, iE, zlT, zlF, zleT, zleF, zeT, zeF, RdI, WrI, DvI, jmaxI, jminI, jabsI, bI0, Zb0, Zb1, ZbI, ↓reduceIte, not_true_eq_false, not_false_eq_true, ite_not, and_true, true_and, and_false, false_and, and_self, g1, b0, b1, b3, fL_may_j77, fL_may_j78, fL_may_j133, fL_may_j134]
theorem lMay (h : RepL L A G) (hW : WF K A) (hm : Sma A) {room time but : Int} (hr : 0 ≤ room ∧ room < A.nR) (ht : 0 ≤ time ∧ time ≤ 1000) (hb : -1 ≤ but ∧ but < 100) : (Poss A room time but → fL_may L (iI room) (iI time) (iI but) = some (iI 1)) ∧ (¬ Poss A room time but → fL_may L (iI room) (iI time) (iI but) = some (iI 0)) := by
  have hn := hW.n
  have g1 := h.g1
  have hrw := hW.r hr.1 hr.2
  have r0 := h.R0 hr.1 hr.2
  have r1 := h.R (c := 1) hr.1 hr.2 (by omega) (by omega)
  have key : ∀ (k fu : Nat) (i : Int), 0 ≤ i → i + k = A.nB → k < fu → ((∀ j : Int, i ≤ j → j < A.nB → PosA A room time but j) ∧ fL_may_l23 L (iI room) (iI time) (iI but) (iI (A.R room 0 + A.R room 1)) fu (iI 1) (iI i) = some (iI 1)) ∨ ((¬ ∀ j : Int, i ≤ j → j < A.nB → PosA A room time but j) ∧ fL_may_l23 L (iI room) (iI time) (iI but) (iI (A.R room 0 + A.R room 1)) fu (iI 1) (iI i) = some (iI 0)) := by
    intro k
    induction k with
    | zero =>
      intro fu i h0 h1 h2
      obtain ⟨fu, rfl⟩ : ∃ q, fu = q + 1 := ⟨fu - 1, by omega⟩
      refine Or.inl ⟨fun j j0 j1 => by omega, ?_⟩
      rw [fL_may_l23_s]
      simp (disch := omega) only [MoI, nmD, bdS, b2S, lit32, iA, iS, iM, iN, iLt, iLe, iE, zlT, zlF, zleT, zleF, zeT, zeF, RdI, WrI, DvI, jmaxI, jminI, jabsI, bI0, Zb0, Zb1, ZbI, ↓reduceIte, not_true_eq_false, not_false_eq_true, ite_not, and_true, true_and, and_false, false_and, and_self, g1]
    | succ k ih =>
      intro fu i h0 h1 h2
      obtain ⟨fu, rfl⟩ : ∃ q, fu = q + 1 := ⟨fu - 1, by omega⟩
      obtain ⟨s, s1, s2, s3⟩ := lMay_s h hW hm hr ht hb h0 (by omega) fu
      rw [s3]
      rcases s1 with rfl | rfl
      · refine Or.inr ⟨fun q => ?_, lMay_0 h hW hm hr hb k fu (i + 1) (by omega) (by omega) (by omega)⟩
        have := s2.mpr (q i (by omega) (by omega))
        omega
      · rcases ih fu (i + 1) (by omega) (by omega) (by omega) with ⟨q1, q2⟩ | ⟨q1, q2⟩
        · refine Or.inl ⟨fun j j0 j1 => ?_, q2⟩
          by_cases e : j = i
          · rw [e]; exact s2.mp rfl
          · exact q1 j (by omega) j1
        · exact Or.inr ⟨fun q => q1 (fun j j0 j1 => q j (by omega) j1), q2⟩
  have e0 : fL_may L (iI room) (iI time) (iI but) = fL_may_l23 L (iI room) (iI time) (iI but) (iI (A.R room 0 + A.R room 1)) FU (iI 1) (iI 0) := by
    obtain ⟨m1, m2, m3⟩ := hm
    obtain ⟨hr1, hr2⟩ := hr
    clear key h
    simp (disch := omega) only [MoI, nmD, bdS, b2S, lit32, iA, iS, iM, iN, iLt, iLe, iE, zlT, zlF, zleT, zleF, zeT, zeF, RdI, WrI, DvI, jmaxI, jminI, jabsI, bI0, Zb0, Zb1, ZbI, ↓reduceIte, not_true_eq_false, not_false_eq_true, ite_not, and_true, true_and, and_false, false_and, and_self, fL_may, r0, r1]
  rw [e0]
  rcases key A.nB.toNat FU 0 (by omega) (by omega) (by unfold FU; omega) with ⟨q1, q2⟩ | ⟨q1, q2⟩
  · exact ⟨fun _ => q2, fun z => absurd q1 z⟩
  · exact ⟨fun z => absurd z q1, fun _ => q2⟩
end LMY
section LLT
variable {L : La} {A : Ab} {G K : Int}
set_option maxHeartbeats 4000000 in
theorem lLate_l (h : RepL L A G) (hW : WF K A) (hm : Sma A) {w : Int} (hw : Good A w w) : ∀ (n fu : Nat) (f d b : Int), Good A w b → A.B w 1 - A.B b 1 < n → n + 1 ≤ fu → 0 ≤ f → f ≤ 160010000 + 200 * A.B b 1 → fL_late_l38 L (iI w) (iI (A.B w 0)) fu (iI f) (iI d) (iI 1) (iI b) = some (iI (max (fcs A w n f b) (A.B w 1) - A.B w 1)) := by
  have hn := hW.n
  have hwr := hW.b hw.1 hw.2.1
  have hr := hW.r hwr.1.1 hwr.1.2
  have hm0 := hm
  obtain ⟨m1, m2, m3⟩ := hm
  intro n
  induction n with
  | zero =>
    intro fu f d b hb h1
    have := hb.2.2.2.2
    omega
  | succ n ih =>
    intro fu f d b hb h1 h2 h3 h4
    obtain ⟨fu, rfl⟩ : ∃ q, fu = q + 1 := ⟨fu - 1, by omega⟩
    have hbb := hW.b hb.1 hb.2.1
    have hb1 := hb.1
    have hb2 := hb.2.1
    have hw1 := hw.1
    have hw2 := hw.2.1
    have v1 := h.B (i := b) (c := 1) hb1 hb2 (by omega) (by omega)
    have r0 := h.R0 hwr.1.1 hwr.1.2
    have r1 := h.R (c := 1) hwr.1.1 hwr.1.2 (by omega) (by omega)
    rw [fL_late_l38_s, fcs_s]
    by_cases c : b = w
    · subst c
      obtain ⟨fu, rfl⟩ : ∃ q, fu = q + 1 := ⟨fu - 1, by omega⟩
      clear ih
      by_cases c2 : f ≤ A.B b 1
      · have e : max f (A.B b 1) - A.B b 1 = 0 := by omega
        simp (disch := omega) only [MoI, nmD, bdS, b2S, lit32, iA, iS, iM, iN, iLt, iLe, iE, zlT, zlF, zleT, zleF, zeT, zeF, RdI, WrI, DvI, jmaxI, jminI, jabsI, bI0, Zb0, Zb1, ZbI, ↓reduceIte, not_true_eq_false, not_false_eq_true, ite_not, and_true, true_and, and_false, false_and, and_self, v1, r0, r1, fL_late_j70, fL_late_j108, fL_late_j138, fL_late_l38_s, e]
      · have e : max f (A.B b 1) - A.B b 1 = f - A.B b 1 := by omega
        simp (disch := omega) only [MoI, nmD, bdS, b2S, lit32, iA, iS, iM, iN, iLt, iLe, iE, zlT, zlF, zleT, zleF, zeT, zeF, RdI, WrI, DvI, jmaxI, jminI, jabsI, bI0, Zb0, Zb1, ZbI, ↓reduceIte, not_true_eq_false, not_false_eq_true, ite_not, and_true, true_and, and_false, false_and, and_self, v1, r0, r1, fL_late_j70, fL_late_j108, fL_late_j138, fL_late_l38_s, e]
    · obtain ⟨g1, g2⟩ := good_step hW hw hb c
      have hi := fun d' : Int => ih fu (max f (A.B b 1) + A.R (A.B w 0) 0 + A.R (A.B w 0) 1) d' (nx A (A.B w 0) (A.B b 1)) g1 (by omega) (by omega) (by omega) (by omega)
      have hnx := lNext h hW hm0 (room := A.B w 0) (fr := A.B b 1 + 1) (by omega) (by omega)
      have enx : nl A (A.B w 0) (A.B b 1 + 1) = nx A (A.B w 0) (A.B b 1) := by
        rw [nl_of (by rw [show A.B b 1 + 1 - 1 = A.B b 1 by omega]; have := g1.1; omega), show A.B b 1 + 1 - 1 = A.B b 1 by omega]
      rw [enx] at hnx
      rw [if_neg c]
      clear ih
      by_cases c2 : f ≤ A.B b 1
      · rw [← hi 0]
        have e : A.B b 1 + 0 + A.R (A.B w 0) 0 + A.R (A.B w 0) 1 = max f (A.B b 1) + A.R (A.B w 0) 0 + A.R (A.B w 0) 1 := by omega
        clear hi h
        simp (disch := omega) only [MoI, nmD, bdS, b2S, lit32, iA, iS, iM, iN, iLt, iLe, iE, zlT, zlF, zleT, zleF, zeT, zeF, RdI, WrI, DvI, jmaxI, jminI, jabsI, bI0, Zb0, Zb1, ZbI, ↓reduceIte, not_true_eq_false, not_false_eq_true, ite_not, and_true, true_and, and_false, false_and, and_self, v1, r0, r1, fL_late_j70, fL_late_j108, fL_late_j138, hnx, e]
      · rw [← hi (f - A.B b 1)]
        have e : A.B b 1 + (f - A.B b 1) + A.R (A.B w 0) 0 + A.R (A.B w 0) 1 = max f (A.B b 1) + A.R (A.B w 0) 0 + A.R (A.B w 0) 1 := by omega
        clear hi h
        simp (disch := omega) only [MoI, nmD, bdS, b2S, lit32, iA, iS, iM, iN, iLt, iLe, iE, zlT, zlF, zleT, zleF, zeT, zeF, RdI, WrI, DvI, jmaxI, jminI, jabsI, bI0, Zb0, Zb1, ZbI, ↓reduceIte, not_true_eq_false, not_false_eq_true, ite_not, and_true, true_and, and_false, false_and, and_self, v1, r0, r1, fL_late_j70, fL_late_j108, fL_late_j138, hnx, e]
theorem lLate (h : RepL L A G) (hW : WF K A) (hm : Sma A) {w : Int} (hw : Good A w w) : fL_late L (iI w) (iI 0) = some (iI (stt A w 0 - A.B w 1)) := by
  have hn := hW.n
  have hw1 := hw.1
  have hw2 := hw.2.1
  have hwr := hW.b hw.1 hw.2.1
  have hr := hW.r hwr.1.1 hwr.1.2
  have hg := good_first hW hw
  have hgb := hW.b hg.1 hg.2.1
  have hnx := lNext h hW hm (room := A.B w 0) (fr := 0) (by omega) (by omega)
  have enx : nl A (A.B w 0) 0 = nx A (A.B w 0) (-1) := nl_of (fr := 0) (by have := hg.1; show nx A (A.B w 0) (-1) ≠ -9; omega)
  rw [enx] at hnx
  have hl := lLate_l h hW hm hw 721 FU (A.R (A.B w 0) 4 + 0) 0 (nx A (A.B w 0) (-1)) hg (by omega) (by unfold FU; omega) (by omega) (by omega)
  have b0 := h.B0 hw1 hw2
  have r4 := h.R (c := 4) hwr.1.1 hwr.1.2 (by omega) (by omega)
  obtain ⟨m1, m2, m3⟩ := hm
  unfold stt
  rw [← hl]
  clear hl h
  simp (disch := omega) only [MoI, nmD, bdS, b2S, lit32, iA, iS, iM, iN, iLt, iLe, iE, zlT, zlF, zleT, zleF, zeT, zeF, RdI, WrI, DvI, jmaxI, jminI, jabsI, bI0, Zb0, Zb1, ZbI, ↓reduceIte, not_true_eq_false, not_false_eq_true, ite_not, and_true, true_and, and_false, false_and, and_self, fL_late, b0, r4, hnx]
theorem lShare_l (x1 : Int32) (kk : Int32 → Option Int32) : ∀ (k fu : Nat) (q y : Int), y ≤ 10 * k → -1000 ≤ y → y < 1000000 → k < fu → fL_share_l9 L x1 kk fu (iI q) (iI y) = kk (iI (q + if 0 < y then (y + 9) / 10 else 0)) := by
  intro k
  induction k with
  | zero =>
    intro fu q y h1 h2 h3 h4
    obtain ⟨fu, rfl⟩ : ∃ q, fu = q + 1 := ⟨fu - 1, by omega⟩
    have c : ¬ 0 < y := by omega
    rw [fL_share_l9_s, if_neg c, Int.add_zero]
    simp (disch := omega) only [MoI, nmD, bdS, b2S, lit32, iA, iS, iM, iN, iLt, iLe, iE, zlT, zlF, zleT, zleF, zeT, zeF, RdI, WrI, DvI, jmaxI, jminI, jabsI, bI0, Zb0, Zb1, ZbI, ↓reduceIte, not_true_eq_false, not_false_eq_true, ite_not, and_true, true_and, and_false, false_and, and_self]
  | succ k ih =>
    intro fu q y h1 h2 h3 h4
    obtain ⟨fu, rfl⟩ : ∃ q, fu = q + 1 := ⟨fu - 1, by omega⟩
    by_cases c : 0 < y
    · have e : q + (if 0 < y then (y + 9) / 10 else 0) = q + 1 + (if 0 < y + -10 then (y + -10 + 9) / 10 else 0) := by
        rw [if_pos c]
        split <;> omega
      rw [e, ← ih fu (q + 1) (y + -10) (by omega) (by omega) (by omega) (by omega), fL_share_l9_s]
      clear ih e
      simp (disch := omega) only [MoI, nmD, bdS, b2S, lit32, iA, iS, iM, iN, iLt, iLe, iE, zlT, zlF, zleT, zleF, zeT, zeF, RdI, WrI, DvI, jmaxI, jminI, jabsI, bI0, Zb0, Zb1, ZbI, ↓reduceIte, not_true_eq_false, not_false_eq_true, ite_not, and_true, true_and, and_false, false_and, and_self]
    · rw [fL_share_l9_s, if_neg c, Int.add_zero]
      clear ih
      simp (disch := omega) only [MoI, nmD, bdS, b2S, lit32, iA, iS, iM, iN, iLt, iLe, iE, zlT, zlF, zleT, zleF, zeT, zeF, RdI, WrI, DvI, jmaxI, jminI, jabsI, bI0, Zb0, Zb1, ZbI, ↓reduceIte, not_true_eq_false, not_false_eq_true, ite_not, and_true, true_and, and_false, false_and, and_self]
theorem lShare (h : RepL L A G) (hW : WF K A) {c d : Int} (hc : 0 ≤ c ∧ c ≤ 1600) (hd : 0 ≤ d ∧ d ≤ 900000) : fL_share L (iI c) (iI d) = some (iI (shr A c d)) := by
  have hs := hW.s
  have e3 := h.e (k := 3) (by omega) (by omega)
  have e4 := h.e (k := 4) (by omega) (by omega)
  obtain ⟨hc1, hc2⟩ := hc
  obtain ⟨hd1, hd2⟩ := hd
  have q1 := mulb (a := (d - A.S 3 + 9) / 10) (b := A.S 4) (X := 16100001) (Y := 50)
  have q2 := mulb (a := c) (b := min 100 ((d - A.S 3 + 9) / 10 * A.S 4)) (X := 1600) (Y := 100) (by omega) (by omega)
  have hl := fun kk : Int32 → Option Int32 => lShare_l (L := L) (iI c) kk 90001 FU 0 (d - A.S 3) (by omega) (by omega) (by omega) (by unfold FU; omega)
  unfold shr
  by_cases k : 0 < d - A.S 3
  · have q1 := q1 (by omega) (by omega) (by omega) (by omega)
    have q2 := q2 (by omega) (by omega)
    rw [if_pos k] at hl ⊢
    rw [Int.zero_add] at hl
    by_cases c2 : (d - A.S 3 + 9) / 10 * A.S 4 ≤ 100
    · have em : min 100 ((d - A.S 3 + 9) / 10 * A.S 4) = (d - A.S 3 + 9) / 10 * A.S 4 := by omega
      rw [em] at q2 ⊢
      clear h hW
      simp (disch := omega) only [MoI, nmD, bdS, b2S, lit32, iA, iS, iM, iN, iLt, iLe, iE, zlT, zlF, zleT, zleF, zeT, zeF, RdI, WrI, DvI, jmaxI, jminI, jabsI, bI0, Zb0, Zb1, ZbI, ↓reduceIte, not_true_eq_false, not_false_eq_true, ite_not, and_true, true_and, and_false, false_and, and_self, fL_share, fL_share_j43, e3, e4, hl]
    · have em : min 100 ((d - A.S 3 + 9) / 10 * A.S 4) = 100 := by omega
      rw [em] at q2 ⊢
      clear h hW
      simp (disch := omega) only [MoI, nmD, bdS, b2S, lit32, iA, iS, iM, iN, iLt, iLe, iE, zlT, zlF, zleT, zleF, zeT, zeF, RdI, WrI, DvI, jmaxI, jminI, jabsI, bI0, Zb0, Zb1, ZbI, ↓reduceIte, not_true_eq_false, not_false_eq_true, ite_not, and_true, true_and, and_false, false_and, and_self, fL_share, fL_share_j43, e3, e4, hl]
  · clear q1 q2
    rw [if_neg k] at hl ⊢
    rw [Int.add_zero] at hl
    clear h hW
    simp (disch := omega) only [MoI, nmD, bdS, b2S, lit32, iA, iS, iM, iN, iLt, iLe, iE, zlT, zlF, zleT, zleF, zeT, zeF, RdI, WrI, DvI, jmaxI, jminI, jabsI, bI0, Zb0, Zb1, ZbI, ↓reduceIte, not_true_eq_false, not_false_eq_true, ite_not, and_true, true_and, and_false, false_and, and_self, fL_share, fL_share_j43, e3, e4, hl, Int.zero_mul, Int.mul_zero]
    rfl
end LLT
theorem sumIn (f : Int → Int) (n : Nat) : ∀ l : List Int, l.Nodup → (∀ x ∈ l, 0 ≤ x ∧ x < n) → sm (fun p => if p ∈ l then f p else 0) n = (l.map f).sum
  | [], _, _ => sm_zero n (fun j _ _ => if_neg List.not_mem_nil)
  | a :: l, hn, hx => by
    obtain ⟨h1, h2⟩ := List.nodup_cons.mp hn
    have ha := hx a List.mem_cons_self
    have e : sm (fun p => if p ∈ a :: l then f p else 0) n = sm (fun p => (if p = a then f p else 0) + (if p ∈ l then f p else 0)) n := sm_cong n (fun j _ _ => by
      by_cases c : j = a
      · rw [if_pos (by rw [c]; exact List.mem_cons_self), if_pos c, if_neg (by rw [c]; exact h1), Int.add_zero]
      · by_cases c2 : j ∈ l
        · rw [if_pos (List.mem_cons_of_mem _ c2), if_neg c, if_pos c2, Int.zero_add]
        · rw [if_neg (fun q => by rcases List.mem_cons.mp q with q | q; exact c q; exact c2 q), if_neg c, if_neg c2, Int.add_zero])
    rw [e, sm_add, sumIn f n l h2 (fun x hx' => hx x (List.mem_cons_of_mem _ hx')), List.map_cons, List.sum_cons]
    congr 1
    rw [sm_one ha.1 n ha.2 (fun j _ _ j2 => if_neg j2), if_pos rfl]
section LPD
variable {L : La} {A : Ab} {G K : Int}
theorem ow_sum {qf : Nat → Int32} {ow st : Int → Int} (hQ : RQ qf A G ow st) (hW : WF K A) (f : Int → Int) {i : Int} (h1 : 0 ≤ i) (h2 : i < A.nB) : sm (fun p => if ow p = i then f p else 0) A.nB.toNat = ((A.rows i).map f).sum := by
  have hn := hW.n
  rw [← sumIn f A.nB.toNat (A.rows i) (hW.2.2.2.2.2.1 i h1 h2).1 (fun x hx => by have := (hW.p h1 h2 hx).1; omega)]
  refine sm_cong _ (fun j j0 j1 => ?_)
  by_cases c : ow j = i
  · have := ((hQ.1 j j0 (by omega)).2.2.2.2 (by omega)).2.2
    rw [c] at this
    rw [if_pos c, if_pos this]
  · rw [if_neg c, if_neg (fun q => c (hQ.2.1 i j h1 h2 q))]
theorem lPaid (h : RepL L A G) (hW : WF K A) (hm : Sma A) {i : Int} (h1 : 0 ≤ i) (h2 : i < A.nB) : fL_paid L (iI i) = some (iI (A.B i 5 + rsum A i)) := by
  have hn := hW.n
  obtain ⟨m1, m2, m3⟩ := hm
  have g1 := h.g1
  have b5 := h.B (i := i) (c := 5) h1 h2 (by omega) (by omega)
  obtain ⟨ow, st, hQ⟩ := h.2.2.2.2.2
  have key : ∀ (k fu : Nat) (p a : Int), 0 ≤ p → p + k = A.nB → k < fu → fL_paid_l13 L (iI i) fu (iI a) (iI p) = some (iI (lp (fun j b => b + (if ow j = i then A.U j else 0)) k p a)) := by
    intro k
    induction k with
    | zero =>
      intro fu p a p0 p1 p2
      obtain ⟨fu, rfl⟩ : ∃ q, fu = q + 1 := ⟨fu - 1, by omega⟩
      rw [fL_paid_l13_s, lp_z]
      simp (disch := omega) only [MoI, nmD, bdS, b2S, lit32, iA, iS, iM, iN, iLt, iLe, iE, zlT, zlF, zleT, zleF, zeT, zeF, RdI, WrI, DvI, jmaxI, jminI, jabsI, bI0, Zb0, Zb1, ZbI, ↓reduceIte, not_true_eq_false, not_false_eq_true, ite_not, and_true, true_and, and_false, false_and, and_self, g1]
    | succ k ih =>
      intro fu p a p0 p1 p2
      obtain ⟨fu, rfl⟩ : ∃ q, fu = q + 1 := ⟨fu - 1, by omega⟩
      obtain ⟨o2, o3, o4, o5, o6⟩ := hQ.1 p p0 (by omega)
      rw [fL_paid_l13_s, lp_s]
      by_cases c : ow p = i
      · obtain ⟨o7, o8, o9⟩ := o6 (by omega)
        have := ih fu (p + 1) (a + A.U p) (by omega) (by omega) (by omega)
        rw [if_pos c, ← this]
        clear ih this h hQ
        simp (disch := omega) only [MoI, nmD, bdS, b2S, lit32, iA, iS, iM, iN, iLt, iLe, iE, zlT, zlF, zleT, zleF, zeT, zeF, RdI, WrI, DvI, jmaxI, jminI, jabsI, bI0, Zb0, Zb1, ZbI, ↓reduceIte, not_true_eq_false, not_false_eq_true, ite_not, and_true, true_and, and_false, false_and, and_self, g1, o2, o8, c, fL_paid_j47]
      · have := ih fu (p + 1) (a + 0) (by omega) (by omega) (by omega)
        rw [if_neg c, ← this]
        clear ih this h hQ
        simp (disch := omega) only [MoI, nmD, bdS, b2S, lit32, iA, iS, iM, iN, iLt, iLe, iE, zlT, zlF, zleT, zleF, zeT, zeF, RdI, WrI, DvI, jmaxI, jminI, jabsI, bI0, Zb0, Zb1, ZbI, ↓reduceIte, not_true_eq_false, not_false_eq_true, ite_not, and_true, true_and, and_false, false_and, and_self, g1, o2, fL_paid_j47]
  have e := key A.nB.toNat FU 0 (A.B i 5) (by omega) (by omega) (by unfold FU; omega)
  rw [lp_sum] at e
  have es : sm (fun j => if ow (0 + j) = i then A.U (0 + j) else 0) A.nB.toNat = rsum A i := by
    have : (fun j : Int => if ow (0 + j) = i then A.U (0 + j) else 0) = fun j => if ow j = i then A.U j else 0 := by
      funext j
      rw [show (0 : Int) + j = j by omega]
    rw [this]
    exact ow_sum hQ hW A.U h1 h2
  rw [es] at e
  clear key
  simp (disch := omega) only [MoI, nmD, bdS, b2S, lit32, iA, iS, iM, iN, iLt, iLe, iE, zlT, zlF, zleT, zleF, zeT, zeF, RdI, WrI, DvI, jmaxI, jminI, jabsI, bI0, Zb0, Zb1, ZbI, ↓reduceIte, not_true_eq_false, not_false_eq_true, ite_not, and_true, true_and, and_false, false_and, and_self, fL_paid, b5]
  exact e
end LPD
