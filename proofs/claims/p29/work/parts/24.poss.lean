/-! Possible times; counts of states. -/
section PX
variable {V : Vn} {A : Ab} {K : Int}
set_option maxHeartbeats 8000000 in
theorem xBehind_l (h : RepX V A) (hW : WF K A) {room : Int} (hr : -2147483648 ≤ room ∧ room < 2147483648) : ∀ (k fu : Nat) (i a : Int), 0 ≤ i → i + k = A.nB → k < fu → 0 ≤ a → a ≤ 721 → ∃ t : Int, fX7_timeBehindPlays_l4 V (iI room) fu (iI a) (iI i) = some (iI t) ∧ a ≤ t ∧ t ≤ 721 ∧ (∀ j : Int, i ≤ j → j < A.nB → A.B j 0 = room → A.B j 3 = 1 → A.B j 1 < t) ∧ (t = a ∨ ∃ j : Int, i ≤ j ∧ j < A.nB ∧ A.B j 0 = room ∧ A.B j 3 = 1 ∧ t = A.B j 1 + 1) := by
  have hn := hW.n
  intro k
  induction k with
  | zero =>
    intro fu i a h0 h1 h2 h3 h4
    obtain ⟨fu, rfl⟩ : ∃ q, fu = q + 1 := ⟨fu - 1, by omega⟩
    refine ⟨a, ?_, by omega, by omega, fun j q1 q2 => by omega, Or.inl rfl⟩
    rw [fX7_timeBehindPlays_l4_s]
    simp (disch := omega) only [nmD, bdS, b2S, lit32, iA, iS, iM, iN, iLt, iLe, iE, zlT, zlF, zleT, zleF, zeT, zeF, RdI, WrI, DvI, jmaxI, jminI, jabsI, bI0, Zb0, Zb1, ZbI, ↓reduceIte, not_true_eq_false, not_false_eq_true, ite_not, and_true, true_and, and_false, false_and, and_self, xSizeB h]
  | succ k ih =>
    intro fu i a h0 h1 h2 h3 h4
    obtain ⟨fu, rfl⟩ : ∃ q, fu = q + 1 := ⟨fu - 1, by omega⟩
    have hb := hW.b h0 (by omega)
    have go : ∀ b : Int, a ≤ b → b ≤ 721 → (A.B i 0 = room → A.B i 3 = 1 → A.B i 1 < b) → (b = a ∨ (A.B i 0 = room ∧ A.B i 3 = 1 ∧ b = A.B i 1 + 1)) → ∃ t : Int, fX7_timeBehindPlays_l4 V (iI room) fu (iI b) (iI (i + 1)) = some (iI t) ∧ a ≤ t ∧ t ≤ 721 ∧ (∀ j : Int, i ≤ j → j < A.nB → A.B j 0 = room → A.B j 3 = 1 → A.B j 1 < t) ∧ (t = a ∨ ∃ j : Int, i ≤ j ∧ j < A.nB ∧ A.B j 0 = room ∧ A.B j 3 = 1 ∧ t = A.B j 1 + 1) := by
      intro b b1 b2 b3 b4
      obtain ⟨t, q1, q2, q3, q4, q5⟩ := ih fu (i + 1) b (by omega) (by omega) (by omega) (by omega) b2
      refine ⟨t, q1, by omega, q3, fun j j1 j2 j3 j4 => ?_, ?_⟩
      · by_cases e : j = i
        · subst e
          have := b3 j3 j4
          omega
        · exact q4 j (by omega) j2 j3 j4
      · rcases q5 with q5 | ⟨j, j1, j2, j3⟩
        · rcases b4 with b4 | ⟨b4, b5, b6⟩
          · exact Or.inl (by omega)
          · exact Or.inr ⟨i, by omega, by omega, b4, b5, by omega⟩
        · exact Or.inr ⟨j, by omega, j2, j3⟩
    rw [fX7_timeBehindPlays_l4_s]
    simp (disch := omega) only [nmD, bdS, b2S, lit32, iA, iS, iM, iN, iLt, iLe, iE, zlT, zlF, zleT, zleF, zeT, zeF, RdI, WrI, DvI, jmaxI, jminI, jabsI, bI0, Zb0, Zb1, ZbI, ↓reduceIte, not_true_eq_false, not_false_eq_true, ite_not, and_true, true_and, and_false, false_and, and_self, xSizeB h, xB h hW]
    by_cases c1 : A.B i 0 = room
    · by_cases c2 : A.B i 3 = 1
      · simp (disch := omega) only [nmD, bdS, b2S, lit32, iA, iS, iM, iN, iLt, iLe, iE, zlT, zlF, zleT, zleF, zeT, zeF, RdI, WrI, DvI, jmaxI, jminI, jabsI, bI0, Zb0, Zb1, ZbI, ↓reduceIte, not_true_eq_false, not_false_eq_true, ite_not, and_true, true_and, and_false, false_and, and_self, fX7_timeBehindPlays_j57]
        exact go _ (by omega) (by omega) (fun _ _ => by omega) (by omega)
      · simp (disch := omega) only [nmD, bdS, b2S, lit32, iA, iS, iM, iN, iLt, iLe, iE, zlT, zlF, zleT, zleF, zeT, zeF, RdI, WrI, DvI, jmaxI, jminI, jabsI, bI0, Zb0, Zb1, ZbI, ↓reduceIte, not_true_eq_false, not_false_eq_true, ite_not, and_true, true_and, and_false, false_and, and_self, fX7_timeBehindPlays_j57]
        exact go a (by omega) h4 (fun _ q => absurd q c2) (Or.inl rfl)
    · simp (disch := omega) only [nmD, bdS, b2S, lit32, iA, iS, iM, iN, iLt, iLe, iE, zlT, zlF, zleT, zleF, zeT, zeF, RdI, WrI, DvI, jmaxI, jminI, jabsI, bI0, Zb0, Zb1, ZbI, ↓reduceIte, not_true_eq_false, not_false_eq_true, ite_not, and_true, true_and, and_false, false_and, and_self, fX7_timeBehindPlays_j57]
      exact go a (by omega) h4 (fun q _ => absurd q c1) (Or.inl rfl)
theorem xBehind (h : RepX V A) (hW : WF K A) {room : Int} (hr : -2147483648 ≤ room ∧ room < 2147483648) : ∃ t : Int, fX7_timeBehindPlays V (iI room) = some (iI t) ∧ 0 ≤ t ∧ t ≤ 721 ∧ (∀ j : Int, 0 ≤ j → j < A.nB → A.B j 0 = room → A.B j 3 = 1 → A.B j 1 < t) ∧ (t = 0 ∨ ∃ j : Int, 0 ≤ j ∧ j < A.nB ∧ A.B j 0 = room ∧ A.B j 3 = 1 ∧ t = A.B j 1 + 1) := by
  have hn := hW.n
  obtain ⟨t, h1, h2⟩ := xBehind_l h hW hr A.nB.toNat FU 0 0 (by omega) (by omega) (by unfold FU; omega) (by omega) (by omega)
  refine ⟨t, ?_, h2⟩
  simp (disch := omega) only [nmD, bdS, b2S, lit32, iA, iS, iM, iN, iLt, iLe, iE, zlT, zlF, zleT, zleF, zeT, zeF, RdI, WrI, DvI, jmaxI, jminI, jabsI, bI0, Zb0, Zb1, ZbI, ↓reduceIte, not_true_eq_false, not_false_eq_true, ite_not, and_true, true_and, and_false, false_and, and_self, fX7_timeBehindPlays]
  exact h1
theorem iabs_le {x : Int} : 0 ≤ iabs x ∧ (iabs x = x ∨ iabs x = -x) := by
  unfold iabs
  split <;> omega
set_option maxHeartbeats 8000000 in
theorem xCol_l (h : RepX V A) (hW : WF K A) {room time but : Int} (hr : 0 ≤ room ∧ room < A.nR) (ht : 0 ≤ time ∧ time ≤ 1000) (hb : -2147483648 ≤ but ∧ but < 2147483648) : ∀ (k fu : Nat) (i : Int), 0 ≤ i → i + k = A.nB → k < fu → ∃ c : Int, fX7_collision_l10 V (iI room) (iI time) (iI but) (iI (A.R room 0 + A.R room 1)) fu (iI i) = some (iI c) ∧ ((c = -9 ∧ ∀ j : Int, i ≤ j → j < A.nB → ¬ Col A room time but j) ∨ (i ≤ c ∧ c < A.nB ∧ Col A room time but c)) := by
  have hn := hW.n
  have hR := hW.r hr.1 hr.2
  intro k
  induction k with
  | zero =>
    intro fu i h0 h1 h2
    obtain ⟨fu, rfl⟩ : ∃ q, fu = q + 1 := ⟨fu - 1, by omega⟩
    refine ⟨-9, ?_, Or.inl ⟨rfl, fun j q1 q2 => by omega⟩⟩
    rw [fX7_collision_l10_s]
    simp (disch := omega) only [nmD, bdS, b2S, lit32, iA, iS, iM, iN, iLt, iLe, iE, zlT, zlF, zleT, zleF, zeT, zeF, RdI, WrI, DvI, jmaxI, jminI, jabsI, bI0, Zb0, Zb1, ZbI, ↓reduceIte, not_true_eq_false, not_false_eq_true, ite_not, and_true, true_and, and_false, false_and, and_self, xSizeB h]
  | succ k ih =>
    intro fu i h0 h1 h2
    obtain ⟨fu, rfl⟩ : ∃ q, fu = q + 1 := ⟨fu - 1, by omega⟩
    have hi := hW.b h0 (by omega)
    have hab := iabs_le (x := A.B i 1 - time)
    have go : ¬ Col A room time but i → ∃ c : Int, fX7_collision_l10 V (iI room) (iI time) (iI but) (iI (A.R room 0 + A.R room 1)) fu (iI (i + 1)) = some (iI c) ∧ ((c = -9 ∧ ∀ j : Int, i ≤ j → j < A.nB → ¬ Col A room time but j) ∨ (i ≤ c ∧ c < A.nB ∧ Col A room time but c)) := by
      intro hc
      obtain ⟨c, q1, q2⟩ := ih fu (i + 1) (by omega) (by omega) (by omega)
      refine ⟨c, q1, ?_⟩
      rcases q2 with ⟨e, q2⟩ | ⟨q2, q3, q4⟩
      · refine Or.inl ⟨e, fun j j1 j2 => ?_⟩
        by_cases e : j = i
        · subst e; exact hc
        · exact q2 j (by omega) j2
      · exact Or.inr ⟨by omega, q3, q4⟩
    rw [fX7_collision_l10_s]
    simp (disch := omega) only [nmD, bdS, b2S, lit32, iA, iS, iM, iN, iLt, iLe, iE, zlT, zlF, zleT, zleF, zeT, zeF, RdI, WrI, DvI, jmaxI, jminI, jabsI, bI0, Zb0, Zb1, ZbI, ↓reduceIte, not_true_eq_false, not_false_eq_true, ite_not, and_true, true_and, and_false, false_and, and_self, xSizeB h, xB h hW]
    by_cases c0 : i = but
    · simp (disch := omega) only [nmD, bdS, b2S, lit32, iA, iS, iM, iN, iLt, iLe, iE, zlT, zlF, zleT, zleF, zeT, zeF, RdI, WrI, DvI, jmaxI, jminI, jabsI, bI0, Zb0, Zb1, ZbI, ↓reduceIte, not_true_eq_false, not_false_eq_true, ite_not, and_true, true_and, and_false, false_and, and_self, fX7_collision_j69, fX7_collision_j70, fX7_collision_j100]
      exact go (fun q => q.1 c0)
    · by_cases c1 : A.B i 0 = room
      · by_cases c2 : A.B i 3 < 2
        · have hfin : ∃ c : Int, fX7_collision_j65 (iI room) (iI time) (iI but) (iI (A.R room 0 + A.R room 1)) (fX7_collision_l10 V (iI room) (iI time) (iI but) (iI (A.R room 0 + A.R room 1)) fu) V (iI i) = some (iI c) ∧ ((c = -9 ∧ ∀ j : Int, i ≤ j → j < A.nB → ¬ Col A room time but j) ∨ (i ≤ c ∧ c < A.nB ∧ Col A room time but c)) := by
            by_cases c3 : A.R room 0 + A.R room 1 ≤ iabs (A.B i 1 - time)
            · simp (disch := omega) only [nmD, bdS, b2S, lit32, iA, iS, iM, iN, iLt, iLe, iE, zlT, zlF, zleT, zleF, zeT, zeF, RdI, WrI, DvI, jmaxI, jminI, jabsI, bI0, Zb0, Zb1, ZbI, ↓reduceIte, not_true_eq_false, not_false_eq_true, ite_not, and_true, true_and, and_false, false_and, and_self, fX7_collision_j65, fX7_collision_j70, fX7_collision_j100, xB h hW]
              exact go (fun q => by have := q.2.2.2; omega)
            · simp (disch := omega) only [nmD, bdS, b2S, lit32, iA, iS, iM, iN, iLt, iLe, iE, zlT, zlF, zleT, zleF, zeT, zeF, RdI, WrI, DvI, jmaxI, jminI, jabsI, bI0, Zb0, Zb1, ZbI, ↓reduceIte, not_true_eq_false, not_false_eq_true, ite_not, and_true, true_and, and_false, false_and, and_self, fX7_collision_j65, fX7_collision_j70, fX7_collision_j100, xB h hW]
              exact ⟨i, rfl, Or.inr ⟨by omega, by omega, c0, c1, c2, by omega⟩⟩
          by_cases c3 : A.B i 3 = 0
          · simp (disch := omega) only [nmD, bdS, b2S, lit32, iA, iS, iM, iN, iLt, iLe, iE, zlT, zlF, zleT, zleF, zeT, zeF, RdI, WrI, DvI, jmaxI, jminI, jabsI, bI0, Zb0, Zb1, ZbI, ↓reduceIte, not_true_eq_false, not_false_eq_true, ite_not, and_true, true_and, and_false, false_and, and_self]
            exact hfin
          · simp (disch := omega) only [nmD, bdS, b2S, lit32, iA, iS, iM, iN, iLt, iLe, iE, zlT, zlF, zleT, zleF, zeT, zeF, RdI, WrI, DvI, jmaxI, jminI, jabsI, bI0, Zb0, Zb1, ZbI, ↓reduceIte, not_true_eq_false, not_false_eq_true, ite_not, and_true, true_and, and_false, false_and, and_self]
            exact hfin
        · simp (disch := omega) only [nmD, bdS, b2S, lit32, iA, iS, iM, iN, iLt, iLe, iE, zlT, zlF, zleT, zleF, zeT, zeF, RdI, WrI, DvI, jmaxI, jminI, jabsI, bI0, Zb0, Zb1, ZbI, ↓reduceIte, not_true_eq_false, not_false_eq_true, ite_not, and_true, true_and, and_false, false_and, and_self, fX7_collision_j69, fX7_collision_j70, fX7_collision_j100]
          exact go (fun q => c2 q.2.2.1)
      · simp (disch := omega) only [nmD, bdS, b2S, lit32, iA, iS, iM, iN, iLt, iLe, iE, zlT, zlF, zleT, zleF, zeT, zeF, RdI, WrI, DvI, jmaxI, jminI, jabsI, bI0, Zb0, Zb1, ZbI, ↓reduceIte, not_true_eq_false, not_false_eq_true, ite_not, and_true, true_and, and_false, false_and, and_self, fX7_collision_j69, fX7_collision_j70, fX7_collision_j100]
        exact go (fun q => c1 q.2.1)
theorem xCol (h : RepX V A) (hW : WF K A) {room time but : Int} (hr : 0 ≤ room ∧ room < A.nR) (ht : 0 ≤ time ∧ time ≤ 1000) (hb : -2147483648 ≤ but ∧ but < 2147483648) : ∃ c : Int, fX7_collision V (iI room) (iI time) (iI but) = some (iI c) ∧ ((c = -9 ∧ ∀ j : Int, 0 ≤ j → j < A.nB → ¬ Col A room time but j) ∨ (0 ≤ c ∧ c < A.nB ∧ Col A room time but c)) := by
  have hn := hW.n
  obtain ⟨c, h1, h2⟩ := xCol_l h hW hr ht hb A.nB.toNat FU 0 (by omega) (by omega) (by unfold FU; omega)
  refine ⟨c, ?_, h2⟩
  have e0 : (0 : Int32) = iI 0 := rfl
  unfold fX7_collision
  rw [xPeriod h hW hr.1 hr.2, bdS, e0]
  exact h1
theorem xPoss (h : RepX V A) (hW : WF K A) {room time but : Int} (hr : 0 ≤ room ∧ room < A.nR) (ht : 0 ≤ time ∧ time ≤ 1000) (hb : -2147483648 ≤ but ∧ but < 2147483648) (hbb : 0 ≤ but → but < A.nB → A.B but 3 = 0) : (Poss A room time but → fX7_isPossible V (iI room) (iI time) (iI but) = some (iI 1)) ∧ (¬ Poss A room time but → fX7_isPossible V (iI room) (iI time) (iI but) = some (iI 0)) := by
  have hn := hW.n
  obtain ⟨t, t1, t2, t3, t4, t5⟩ := xBehind h hW (room := room) (by omega)
  obtain ⟨c, c1, c2⟩ := xCol h hW hr ht hb
  have hcol : (∀ j : Int, 0 ≤ j → j < A.nB → ¬ Col A room time but j) → t ≤ time → Poss A room time but := by
    intro q1 q2 j j1 j2 j3 j4 j5
    refine ⟨?_, ?_⟩
    · by_cases q : A.R room 0 + A.R room 1 ≤ iabs (A.B j 1 - time)
      · exact q
      · exact absurd ⟨j3, j4, j5, by omega⟩ (q1 j j1 j2)
    · by_cases q : A.B j 3 = 0
      · exact Or.inl q
      · have hj := hW.b j1 j2
        have := t4 j j1 j2 j4 (by omega)
        exact Or.inr (by omega)
  refine ⟨fun hp => ?_, fun hp => ?_⟩
  · have e1 : t ≤ time := by
      rcases t5 with t5 | ⟨j, j1, j2, j3, j4, j5⟩
      · omega
      · have hne : j ≠ but := fun e => by
          subst e
          have := hbb j1 j2
          omega
        have := (hp j j1 j2 hne j3 (by omega)).2
        omega
    have e2 : c = -9 := by
      rcases c2 with ⟨e, -⟩ | ⟨q1, q2, q3, q4, q5, q6⟩
      · exact e
      · have := (hp c q1 q2 q3 q4 q5).1
        omega
    subst e2
    simp (disch := omega) only [nmD, bdS, b2S, lit32, iA, iS, iM, iN, iLt, iLe, iE, zlT, zlF, zleT, zleF, zeT, zeF, RdI, WrI, DvI, jmaxI, jminI, jabsI, bI0, Zb0, Zb1, ZbI, ↓reduceIte, not_true_eq_false, not_false_eq_true, ite_not, and_true, true_and, and_false, false_and, and_self, fX7_isPossible, fX7_isPossible_j25, fX7_isPossible_j26, t1, c1]
  · by_cases e1 : time < t
    · simp (disch := omega) only [nmD, bdS, b2S, lit32, iA, iS, iM, iN, iLt, iLe, iE, zlT, zlF, zleT, zleF, zeT, zeF, RdI, WrI, DvI, jmaxI, jminI, jabsI, bI0, Zb0, Zb1, ZbI, ↓reduceIte, not_true_eq_false, not_false_eq_true, ite_not, and_true, true_and, and_false, false_and, and_self, fX7_isPossible, fX7_isPossible_j25, fX7_isPossible_j26, t1]
    · rcases c2 with ⟨e, q⟩ | ⟨q1, q2, -⟩
      · exact absurd (hcol q (by omega)) hp
      · simp (disch := omega) only [nmD, bdS, b2S, lit32, iA, iS, iM, iN, iLt, iLe, iE, zlT, zlF, zleT, zleF, zeT, zeF, RdI, WrI, DvI, jmaxI, jminI, jabsI, bI0, Zb0, Zb1, ZbI, ↓reduceIte, not_true_eq_false, not_false_eq_true, ite_not, and_true, true_and, and_false, false_and, and_self, fX7_isPossible, fX7_isPossible_j25, fX7_isPossible_j26, t1, c1]
theorem xCst_l (h : RepX V A) (hW : WF K A) {x : Int} (hx : -2147483648 ≤ x ∧ x < 2147483648) : ∀ (k fu : Nat) (i a : Int), 0 ≤ i → i + k = A.nB → k < fu → fX7_bookingsInState_l4 V (iI x) fu (iI a) (iI i) = some (iI (lp (fun j b => if A.B j 3 = x then b + 1 else b) k i a)) := by
  have hn := hW.n
  intro k
  induction k with
  | zero =>
    intro fu i a h0 h1 h2
    obtain ⟨fu, rfl⟩ : ∃ q, fu = q + 1 := ⟨fu - 1, by omega⟩
    rw [fX7_bookingsInState_l4_s, lp_z]
    simp (disch := omega) only [nmD, bdS, b2S, lit32, iA, iS, iM, iN, iLt, iLe, iE, zlT, zlF, zleT, zleF, zeT, zeF, RdI, WrI, DvI, jmaxI, jminI, jabsI, bI0, Zb0, Zb1, ZbI, ↓reduceIte, not_true_eq_false, not_false_eq_true, ite_not, and_true, true_and, and_false, false_and, and_self, xSizeB h]
  | succ k ih =>
    intro fu i a h0 h1 h2
    obtain ⟨fu, rfl⟩ : ∃ q, fu = q + 1 := ⟨fu - 1, by omega⟩
    have hb := hW.b h0 (by omega)
    rw [fX7_bookingsInState_l4_s, lp_s]
    simp (disch := omega) only [nmD, bdS, b2S, lit32, iA, iS, iM, iN, iLt, iLe, iE, zlT, zlF, zleT, zleF, zeT, zeF, RdI, WrI, DvI, jmaxI, jminI, jabsI, bI0, Zb0, Zb1, ZbI, ↓reduceIte, not_true_eq_false, not_false_eq_true, ite_not, and_true, true_and, and_false, false_and, and_self, xSizeB h, xB h hW, fX7_bookingsInState_j31]
    by_cases c : A.B i 3 = x
    · rw [if_pos c, if_pos c]
      exact ih fu (i + 1) (a + 1) (by omega) (by omega) (by omega)
    · rw [if_neg c, if_neg c]
      exact ih fu (i + 1) a (by omega) (by omega) (by omega)
def cst (A : Ab) (x : Int) : Int := lp (fun j b => if A.B j 3 = x then b + 1 else b) A.nB.toNat 0 0
theorem xCst (h : RepX V A) (hW : WF K A) {x : Int} (hx : -2147483648 ≤ x ∧ x < 2147483648) : fX7_bookingsInState V (iI x) = some (iI (cst A x)) := by
  have hn := hW.n
  simp (disch := omega) only [nmD, bdS, b2S, lit32, iA, iS, iM, iN, iLt, iLe, iE, zlT, zlF, zleT, zleF, zeT, zeF, RdI, WrI, DvI, jmaxI, jminI, jabsI, bI0, Zb0, Zb1, ZbI, ↓reduceIte, not_true_eq_false, not_false_eq_true, ite_not, and_true, true_and, and_false, false_and, and_self, fX7_bookingsInState]
  exact xCst_l h hW hx A.nB.toNat FU 0 0 (by omega) (by omega) (by unfold FU; omega)
end PX
section PM
variable {A : Ab} {K : Int}
end PM
