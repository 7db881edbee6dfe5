/-! Free times; totals; what is looked at. -/
section FT
variable {V : Vn} {M : Md} {A : Ab} {K : Int}
def act (A : Ab) (room t : Int) : Int := ct (fun i => decide (A.B i 0 = room ∧ A.B i 3 < 2 ∧ t < A.B i 1 + (A.R room 0 + A.R room 1))) A.nB.toNat
theorem act_le (hW : WF K A) {room t : Int} : act A room t ≤ 16 := by
  have hn := hW.n
  have := ct_le (fun i => decide (A.B i 0 = room ∧ A.B i 3 < 2 ∧ t < A.B i 1 + (A.R room 0 + A.R room 1))) A.nB.toNat
  unfold act
  omega
theorem act_lt {room t c : Int} (hp : 0 < A.R room 0 + A.R room 1) (h1 : 0 ≤ c) (h2 : c < A.nB) (hc : Col A room t (-9) c) : act A room (A.B c 1 + (A.R room 0 + A.R room 1)) + 1 ≤ act A room t := by
  have hab := iabs_le (x := A.B c 1 - t)
  have h3 := hc.2.2.2
  unfold act
  refine ct_lt (fun i hi => ?_) (j := c) h1 (by simp) (by simp [hc.2.1, hc.2.2.1]; omega) A.nB.toNat (by omega)
  have h4 := of_decide_eq_true hi
  exact decide_eq_true ⟨h4.1, h4.2.1, by omega⟩
theorem act_no {room t : Int} (h : act A room t ≤ 0) (hp : 0 < A.R room 0 + A.R room 1) {c : Int} (h1 : 0 ≤ c) (h2 : c < A.nB) : ¬ Col A room t (-9) c := by
  intro hc
  have := act_lt hp h1 h2 hc
  have h0 : ∀ n : Nat, ct (fun _ => false) n = 0 := by
    intro n
    induction n with
    | zero => rfl
    | succ n ih => rw [ct, ih]; rfl
  have hz : 0 ≤ act A room (A.B c 1 + (A.R room 0 + A.R room 1)) := by
    unfold act
    have := ct_mono (p := fun _ => false) (q := fun i => decide (A.B i 0 = room ∧ A.B i 3 < 2 ∧ (A.B c 1 + (A.R room 0 + A.R room 1)) < A.B i 1 + (A.R room 0 + A.R room 1))) (fun _ q => by cases q) A.nB.toNat
    rw [h0] at this
    exact this
  omega
theorem mFree_l (h : RepM M.1 A) (hW : WF K A) {room : Int} (hr : 0 ≤ room ∧ room < A.nR) : ∀ (k fu : Nat) (t T : Int), 0 ≤ t → t + k = T → T ≤ 721 → k + 1 < fu → (∀ u : Int, t ≤ u → u < T → ¬ Poss A room u (-9)) → (T ≤ 720 → Poss A room T (-9)) → fX9_freeTime_l23 M (iI room) fu (iI t) = some (if T ≤ 720 then iI T else iI (-9)) := by
  intro k
  induction k with
  | zero =>
    intro fu t T h0 h1 h2 h3 h4 h5
    obtain ⟨fu, rfl⟩ : ∃ q, fu = q + 1 := ⟨fu - 1, by omega⟩
    obtain rfl : t = T := by omega
    rw [fX9_freeTime_l23_s]
    by_cases c : t ≤ 720
    · have hp := (mPoss h hW (but := -9) hr (time := t) (by omega) (by omega)).1 (h5 c)
      rw [if_pos c]
      clear h4 h5
      simp (disch := omega) only [nmD, bdS, b2S, lit32, iA, iS, iM, iN, iLt, iLe, iE, zlT, zlF, zleT, zleF, zeT, zeF, RdI, WrI, DvI, jmaxI, jminI, jabsI, bI0, Zb0, Zb1, ZbI, ↓reduceIte, not_true_eq_false, not_false_eq_true, ite_not, and_true, true_and, and_false, false_and, and_self, hp]
    · rw [if_neg c]
      clear h4 h5
      simp (disch := omega) only [nmD, bdS, b2S, lit32, iA, iS, iM, iN, iLt, iLe, iE, zlT, zlF, zleT, zleF, zeT, zeF, RdI, WrI, DvI, jmaxI, jminI, jabsI, bI0, Zb0, Zb1, ZbI, ↓reduceIte, not_true_eq_false, not_false_eq_true, ite_not, and_true, true_and, and_false, false_and, and_self]
  | succ k ih =>
    intro fu t T h0 h1 h2 h3 h4 h5
    obtain ⟨fu, rfl⟩ : ∃ q, fu = q + 1 := ⟨fu - 1, by omega⟩
    have hp := (mPoss h hW (but := -9) hr (time := t) (by omega) (by omega)).2 (h4 t (by omega) (by omega))
    rw [fX9_freeTime_l23_s, ← ih fu (t + 1) T (by omega) (by omega) h2 (by omega) (fun u u1 u2 => h4 u (by omega) u2) h5]
    clear ih h4 h5
    simp (disch := omega) only [nmD, bdS, b2S, lit32, iA, iS, iM, iN, iLt, iLe, iE, zlT, zlF, zleT, zleF, zeT, zeF, RdI, WrI, DvI, jmaxI, jminI, jabsI, bI0, Zb0, Zb1, ZbI, ↓reduceIte, not_true_eq_false, not_false_eq_true, ite_not, and_true, true_and, and_false, false_and, and_self, hp]
theorem xFree_l (h : RepX V A) (hW : WF K A) {room fr be : Int} (hr : 0 ≤ room ∧ room < A.nR) (hb : ∀ j : Int, 0 ≤ j → j < A.nB → A.B j 0 = room → A.B j 3 = 1 → A.B j 1 < be) (kk : Int32 → Option Int32) : ∀ (k fu : Nat) (t c s : Int), 0 ≤ t → t ≤ 1000 → be ≤ t → (∀ u : Int, fr ≤ u → u < t → u ≤ 720 → ¬ Poss A room u (-9)) → 0 ≤ s → s ≤ 16 → 16 - s ≤ k → act A room t ≤ 16 - s → k < fu → ((c = -9 ∧ ∀ j : Int, 0 ≤ j → j < A.nB → ¬ Col A room t (-9) j) ∨ (0 ≤ c ∧ c < A.nB ∧ Col A room t (-9) c)) → ∃ T : Int, fX2_earliestTime_l53 V (iI room) kk fu (iI t) (iI c) (iI s) = kk (iI T) ∧ t ≤ T ∧ T ≤ 1000 ∧ (∀ u : Int, fr ≤ u → u < T → u ≤ 720 → ¬ Poss A room u (-9)) ∧ Poss A room T (-9) := by
  have hn := hW.n
  have hR := hW.r hr.1 hr.2
  have fin : ∀ t : Int, 0 ≤ t → be ≤ t → (∀ j : Int, 0 ≤ j → j < A.nB → ¬ Col A room t (-9) j) → Poss A room t (-9) := by
    intro t t0 t1 q1 j j1 j2 j3 j4 j5
    refine ⟨?_, ?_⟩
    · by_cases q : A.R room 0 + A.R room 1 ≤ iabs (A.B j 1 - t)
      · exact q
      · exact absurd ⟨j3, j4, j5, by omega⟩ (q1 j j1 j2)
    · by_cases q : A.B j 3 = 0
      · exact Or.inl q
      · have hj := hW.b j1 j2
        have := hb j j1 j2 j4 (by omega)
        exact Or.inr (by omega)
  intro k
  induction k with
  | zero =>
    intro fu t c s t0 t1 t2 t3 s0 s00 s1 s2 hf hc
    obtain ⟨fu, rfl⟩ : ∃ q, fu = q + 1 := ⟨fu - 1, by omega⟩
    have hno : ∀ j : Int, 0 ≤ j → j < A.nB → ¬ Col A room t (-9) j := fun j j1 j2 => act_no (by omega) (by omega) j1 j2
    refine ⟨t, ?_, by omega, t1, t3, fin t t0 t2 hno⟩
    clear hc hno t3 fin hb
    rw [fX2_earliestTime_l53_s]
    simp (disch := omega) only [nmD, bdS, b2S, lit32, iA, iS, iM, iN, iLt, iLe, iE, zlT, zlF, zleT, zleF, zeT, zeF, RdI, WrI, DvI, jmaxI, jminI, jabsI, bI0, Zb0, Zb1, ZbI, ↓reduceIte, not_true_eq_false, not_false_eq_true, ite_not, and_true, true_and, and_false, false_and, and_self]
  | succ k ih =>
    intro fu t c s t0 t1 t2 t3 s0 s00 s1 s2 hf hc
    obtain ⟨fu, rfl⟩ : ∃ q, fu = q + 1 := ⟨fu - 1, by omega⟩
    rcases hc with ⟨rfl, hc⟩ | ⟨c0, c1, hc⟩
    · refine ⟨t, ?_, by omega, t1, t3, fin t t0 t2 hc⟩
      clear hc t3 fin hb ih
      rw [fX2_earliestTime_l53_s]
      simp (disch := omega) only [nmD, bdS, b2S, lit32, iA, iS, iM, iN, iLt, iLe, iE, zlT, zlF, zleT, zleF, zeT, zeF, RdI, WrI, DvI, jmaxI, jminI, jabsI, bI0, Zb0, Zb1, ZbI, ↓reduceIte, not_true_eq_false, not_false_eq_true, ite_not, and_true, true_and, and_false, false_and, and_self, ite_self]
    · have hlt := act_lt (by omega) c0 c1 hc
      have hcb := hW.b c0 c1
      have hab := iabs_le (x := A.B c 1 - t)
      have hcl := hc.2.2.2
      have hz : 0 ≤ act A room (A.B c 1 + (A.R room 0 + A.R room 1)) := by
        unfold act
        have h0 : ∀ n : Nat, ct (fun _ => false) n = 0 := by
          intro n
          induction n with
          | zero => rfl
          | succ n ih => rw [ct, ih]; rfl
        have := ct_mono (p := fun _ => false) (q := fun i => decide (A.B i 0 = room ∧ A.B i 3 < 2 ∧ (A.B c 1 + (A.R room 0 + A.R room 1)) < A.B i 1 + (A.R room 0 + A.R room 1))) (fun _ q => by cases q) A.nB.toNat
        rw [h0] at this
        exact this
      obtain ⟨c', e1, e2⟩ := xCol h hW (room := room) (time := A.B c 1 + (A.R room 0 + A.R room 1)) (but := -9) hr (by omega) (by omega)
      obtain ⟨T, f1, f2, f3, f4, f5⟩ := ih fu (A.B c 1 + (A.R room 0 + A.R room 1)) c' (s + 1) (by omega) (by omega) (by omega) (fun u u1 u2 u3 hp => by
        by_cases q : u < t
        · exact t3 u u1 q u3 hp
        · have h3 := (hp c c0 c1 hc.1 hc.2.1 hc.2.2.1).1
          have hab2 := iabs_le (x := A.B c 1 - u)
          omega) (by omega) (by omega) (by omega) (by omega) (by omega) e2
      refine ⟨T, ?_, by omega, f3, f4, f5⟩
      rw [← f1]
      clear f1 f2 f3 f4 f5 e2 ih hc t3 fin hb
      rw [fX2_earliestTime_l53_s]
      simp (disch := omega) only [nmD, bdS, b2S, lit32, iA, iS, iM, iN, iLt, iLe, iE, zlT, zlF, zleT, zleF, zeT, zeF, RdI, WrI, DvI, jmaxI, jminI, jabsI, bI0, Zb0, Zb1, ZbI, ↓reduceIte, not_true_eq_false, not_false_eq_true, ite_not, and_true, true_and, and_false, false_and, and_self, xB h hW, xPeriod h hW, e1]
theorem agFree (hX : RepX V A) (hM : RepM M.1 A) (hW : WF K A) (x1 x2 : Int32) : ∃ r : Int32, fX2_earliestTime V x1 x2 = some r ∧ fX9_freeTime M x1 x2 = some r := by
  have hn := hW.n
  obtain ⟨x, rfl, hx1, hx2⟩ := iX x1
  obtain ⟨y, rfl, hy1, hy2⟩ := iX x2
  by_cases h1 : 0 ≤ x ∧ x < A.nR
  · by_cases h2 : 0 ≤ y ∧ y ≤ 720
    · obtain ⟨t, t1, t2, t3, t4, t5⟩ := xBehind hX hW (room := x) (by omega)
      obtain ⟨c, c1, c2⟩ := xCol hX hW (room := x) (time := max y t) (but := -9) h1 (by omega) (by omega)
      obtain ⟨T, f1, f2, f3, f4, f5⟩ := xFree_l hX hW (room := x) (fr := y) (be := t) h1 t4 (fun y15 => if 720 < y15 then (fX2_earliestTime_j119 V (-9)) else (fX2_earliestTime_j119 V y15)) 16 FU (max y t) c 0 (by omega) (by omega) (by omega) (fun u u1 u2 u3 hp => by
        rcases t5 with t5 | ⟨j, j1, j2, j3, j4, j5⟩
        · omega
        · have := (hp j j1 j2 (by omega) j3 (by omega)).2
          omega) (by omega) (by omega) (by omega) (by have := act_le hW (room := x) (t := max y t); omega) (by unfold FU; omega) c2
      have e0 : (0 : Int32) = iI 0 := rfl
      have e7 : (720 : Int32) = iI 720 := rfl
      have e9 : (-9 : Int32) = iI (-9) := rfl
      refine ⟨if T ≤ 720 then iI T else iI (-9), ?_, ?_⟩
      · unfold fX2_earliestTime
        rw [show fX6_has 44 4 11 V.1 (iI x) = _ from xHasR hX hW hx1 hx2, bdS, bIt h1, if_neg (by decide), e0, e7, xIn hy1 hy2 (by omega) (by omega) (by omega) (by omega), bdS, bIt h2, if_neg (by decide), t1, bdS, nmD, jmaxI (by omega) (by omega) (by omega) (by omega), e9, c1, bdS]
        rw [e7, e9] at f1
        rw [f1]
        by_cases q : T ≤ 720
        · rw [if_pos q]
          simp (disch := omega) only [nmD, bdS, b2S, lit32, iA, iS, iM, iN, iLt, iLe, iE, zlT, zlF, zleT, zleF, zeT, zeF, RdI, WrI, DvI, jmaxI, jminI, jabsI, bI0, Zb0, Zb1, ZbI, ↓reduceIte, not_true_eq_false, not_false_eq_true, ite_not, and_true, true_and, and_false, false_and, and_self, fX2_earliestTime_j119]
        · rw [if_neg q]
          simp (disch := omega) only [nmD, bdS, b2S, lit32, iA, iS, iM, iN, iLt, iLe, iE, zlT, zlF, zleT, zleF, zeT, zeF, RdI, WrI, DvI, jmaxI, jminI, jabsI, bI0, Zb0, Zb1, ZbI, ↓reduceIte, not_true_eq_false, not_false_eq_true, ite_not, and_true, true_and, and_false, false_and, and_self, fX2_earliestTime_j119]
      · unfold fX9_freeTime
        rw [mIsR hM hW hx1 hx2, bdS, bIt h1, if_neg (by decide), e0, e7, mIn hy1 hy2 (by omega) (by omega) (by omega) (by omega), bdS, bIt h2, if_neg (by decide)]
        by_cases q : T ≤ 720
        · rw [mFree_l hM hW (room := x) h1 (T - y).toNat FU y T (by omega) (by omega) (by omega) (by unfold FU; omega) (fun u u1 u2 => f4 u u1 u2 (by omega)) (fun _ => f5), if_pos q]
        · rw [mFree_l hM hW (room := x) h1 (721 - y).toNat FU y 721 (by omega) (by omega) (by omega) (by unfold FU; omega) (fun u u1 u2 => f4 u u1 (by omega) (by omega)) (fun z => by omega), if_neg q, if_neg (by omega)]
    · obtain ⟨h1a, h1b⟩ := h1
      refine ⟨iI (-1), ?_, ?_⟩
      · simp (disch := omega) only [nmD, bdS, b2S, lit32, iA, iS, iM, iN, iLt, iLe, iE, zlT, zlF, zleT, zleF, zeT, zeF, RdI, WrI, DvI, jmaxI, jminI, jabsI, bI0, Zb0, Zb1, ZbI, ↓reduceIte, not_true_eq_false, not_false_eq_true, ite_not, and_true, true_and, and_false, false_and, and_self, fX2_earliestTime, xHasR hX hW, xIn, h2]
      · simp (disch := omega) only [nmD, bdS, b2S, lit32, iA, iS, iM, iN, iLt, iLe, iE, zlT, zlF, zleT, zleF, zeT, zeF, RdI, WrI, DvI, jmaxI, jminI, jabsI, bI0, Zb0, Zb1, ZbI, ↓reduceIte, not_true_eq_false, not_false_eq_true, ite_not, and_true, true_and, and_false, false_and, and_self, fX9_freeTime, mIsR hM hW, mIn, h2]
  · refine ⟨iI (-1), ?_, ?_⟩
    · simp (disch := omega) only [nmD, bdS, b2S, lit32, iA, iS, iM, iN, iLt, iLe, iE, zlT, zlF, zleT, zleF, zeT, zeF, RdI, WrI, DvI, jmaxI, jminI, jabsI, bI0, Zb0, Zb1, ZbI, ↓reduceIte, not_true_eq_false, not_false_eq_true, ite_not, and_true, true_and, and_false, false_and, and_self, fX2_earliestTime, xHasR hX hW, h1]
    · simp (disch := omega) only [nmD, bdS, b2S, lit32, iA, iS, iM, iN, iLt, iLe, iE, zlT, zlF, zleT, zleF, zeT, zeF, RdI, WrI, DvI, jmaxI, jminI, jabsI, bI0, Zb0, Zb1, ZbI, ↓reduceIte, not_true_eq_false, not_false_eq_true, ite_not, and_true, true_and, and_false, false_and, and_self, fX9_freeTime, mIsR hM hW, h1]
end FT
