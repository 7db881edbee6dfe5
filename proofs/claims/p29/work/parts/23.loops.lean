/-! Loops that read: possible times, the next booking. -/
theorem lp_s {α : Type} (f : Int → α → α) (k : Nat) (i : Int) (a : α) : lp f (k + 1) i a = lp f k (i + 1) (f i a) := (rfl)
theorem lp_z {α : Type} (f : Int → α → α) (i : Int) (a : α) : lp f 0 i a = a := (rfl)
def Col (A : Ab) (room time but j : Int) : Prop := j ≠ but ∧ A.B j 0 = room ∧ A.B j 3 < 2 ∧ iabs (A.B j 1 - time) < A.R room 0 + A.R room 1
def PosA (A : Ab) (room time but j : Int) : Prop := j ≠ but → A.B j 0 = room → A.B j 3 < 2 → A.R room 0 + A.R room 1 ≤ iabs (A.B j 1 - time) ∧ (A.B j 3 = 0 ∨ A.B j 1 < time)
def Poss (A : Ab) (room time but : Int) : Prop := ∀ j : Int, 0 ≤ j → j < A.nB → PosA A room time but j
def Cand (A : Ab) (room after j : Int) : Prop := A.B j 0 = room ∧ A.B j 3 = 0 ∧ after < A.B j 1
def NxU (A : Ab) (room after n c : Int) : Prop := (c = -9 ∧ ∀ j : Int, 0 ≤ j → j < n → ¬ Cand A room after j) ∨ (0 ≤ c ∧ c < n ∧ Cand A room after c ∧ ∀ j : Int, 0 ≤ j → j < n → Cand A room after j → A.B c 1 < A.B j 1 ∨ (A.B c 1 = A.B j 1 ∧ c ≤ j))
theorem NxU.one {A : Ab} {room after n c d : Int} (h1 : NxU A room after n c) (h2 : NxU A room after n d) : c = d := by
  rcases h1 with ⟨rfl, h1⟩ | ⟨a1, a2, a3, a4⟩
  · rcases h2 with ⟨rfl, h2⟩ | ⟨b1, b2, b3, b4⟩
    · rfl
    · exact absurd b3 (h1 d b1 b2)
  · rcases h2 with ⟨rfl, h2⟩ | ⟨b1, b2, b3, b4⟩
    · exact absurd a3 (h2 c a1 a2)
    · have q1 := a4 d b1 b2 b3
      have q2 := b4 c a1 a2 a3
      omega
theorem NxU.skip {A : Ab} {room after i f : Int} (h : NxU A room after i f) (hc : ¬ Cand A room after i) : NxU A room after (i + 1) f := by
  rcases h with ⟨rfl, h1⟩ | ⟨a1, a2, a3, a4⟩
  · exact Or.inl ⟨rfl, fun j h2 h3 => by
      by_cases e : j = i
      · subst e; exact hc
      · exact h1 j h2 (by omega)⟩
  · refine Or.inr ⟨a1, by omega, a3, fun j h2 h3 h4 => ?_⟩
    by_cases e : j = i
    · subst e; exact absurd h4 hc
    · exact a4 j h2 (by omega) h4
theorem NxU.keep {A : Ab} {room after i f : Int} (h : NxU A room after i f) (hf : f ≠ -9) (hle : A.B f 1 ≤ A.B i 1) : NxU A room after (i + 1) f := by
  rcases h with ⟨rfl, h1⟩ | ⟨a1, a2, a3, a4⟩
  · exact absurd rfl hf
  · refine Or.inr ⟨a1, by omega, a3, fun j h2 h3 h4 => ?_⟩
    by_cases e : j = i
    · subst e; omega
    · exact a4 j h2 (by omega) h4
theorem NxU.take {A : Ab} {room after i f : Int} (h : NxU A room after i f) (hi : 0 ≤ i) (hc : Cand A room after i) (hlt : f = -9 ∨ A.B i 1 < A.B f 1) : NxU A room after (i + 1) i := by
  refine Or.inr ⟨hi, by omega, hc, fun j h2 h3 h4 => ?_⟩
  by_cases e : j = i
  · subst e; omega
  · rcases h with ⟨rfl, h1⟩ | ⟨a1, a2, a3, a4⟩
    · exact absurd h4 (h1 j h2 (by omega))
    · have := a4 j h2 (by omega) h4
      omega
section LX
variable {V : Vn} {A : Ab} {K : Int}
theorem xNext_l (h : RepX V A) (hW : WF K A) {room after : Int} (hr : -2147483648 ≤ room ∧ room < 2147483648) (ha : -2147483648 ≤ after ∧ after < 2147483648) : ∀ (k fu : Nat) (i f e : Int), 0 ≤ i → i + k = A.nB → k < fu → NxU A room after i f → (f ≠ -9 → e = A.B f 1) → ∃ c : Int, fX7_nextBooked_l9 V (iI room) (iI after) fu (iI f) (iI e) (iI i) = some (iI c) ∧ NxU A room after A.nB c := by
  have hn := hW.n
  intro k
  induction k with
  | zero =>
    intro fu i f e h0 h1 h2 h3 h4
    obtain ⟨fu, rfl⟩ : ∃ q, fu = q + 1 := ⟨fu - 1, by omega⟩
    refine ⟨f, ?_, by rw [show A.nB = i by omega]; exact h3⟩
    rw [fX7_nextBooked_l9_s]
    simp (disch := omega) only [nmD, bdS, b2S, lit32, iA, iS, iM, iN, iLt, iLe, iE, zlT, zlF, zleT, zleF, zeT, zeF, RdI, WrI, DvI, jmaxI, jminI, jabsI, bI0, Zb0, Zb1, ZbI, ↓reduceIte, not_true_eq_false, not_false_eq_true, ite_not, and_true, true_and, and_false, false_and, and_self, xSizeB h]
  | succ k ih =>
    intro fu i f e h0 h1 h2 h3 h4
    obtain ⟨fu, rfl⟩ : ∃ q, fu = q + 1 := ⟨fu - 1, by omega⟩
    have hb := hW.b h0 (by omega)
    have hf : f = -9 ∨ (0 ≤ f ∧ f < i) := by
      rcases h3 with ⟨q, -⟩ | ⟨q1, q2, -⟩
      · exact Or.inl q
      · exact Or.inr ⟨q1, q2⟩
    have hskip : ¬ Cand A room after i → ∃ c : Int, fX7_nextBooked_l9 V (iI room) (iI after) fu (iI f) (iI e) (iI (i + 1)) = some (iI c) ∧ NxU A room after A.nB c := fun hc => ih fu (i + 1) f e (by omega) (by omega) (by omega) (h3.skip hc) h4
    rw [fX7_nextBooked_l9_s]
    simp (disch := omega) only [nmD, bdS, b2S, lit32, iA, iS, iM, iN, iLt, iLe, iE, zlT, zlF, zleT, zleF, zeT, zeF, RdI, WrI, DvI, jmaxI, jminI, jabsI, bI0, Zb0, Zb1, ZbI, ↓reduceIte, not_true_eq_false, not_false_eq_true, ite_not, and_true, true_and, and_false, false_and, and_self, xSizeB h, xB h hW]
    by_cases c1 : A.B i 3 = 0
    · by_cases c2 : A.B i 0 = room
      · by_cases c3 : A.B i 1 ≤ after
        · simp (disch := omega) only [nmD, bdS, b2S, lit32, iA, iS, iM, iN, iLt, iLe, iE, zlT, zlF, zleT, zleF, zeT, zeF, RdI, WrI, DvI, jmaxI, jminI, jabsI, bI0, Zb0, Zb1, ZbI, ↓reduceIte, not_true_eq_false, not_false_eq_true, ite_not, and_true, true_and, and_false, false_and, and_self, fX7_nextBooked_j70, fX7_nextBooked_j71, fX7_nextBooked_j98]
          exact hskip (fun q => by have := q.2.2; omega)
        · have hcand : Cand A room after i := ⟨c2, c1, by omega⟩
          by_cases c4 : f = -9
          · simp (disch := omega) only [nmD, bdS, b2S, lit32, iA, iS, iM, iN, iLt, iLe, iE, zlT, zlF, zleT, zleF, zeT, zeF, RdI, WrI, DvI, jmaxI, jminI, jabsI, bI0, Zb0, Zb1, ZbI, ↓reduceIte, not_true_eq_false, not_false_eq_true, ite_not, and_true, true_and, and_false, false_and, and_self, fX7_nextBooked_j71, fX7_nextBooked_j91, fX7_nextBooked_j98]
            exact ih fu (i + 1) i (A.B i 1) (by omega) (by omega) (by omega) (h3.take h0 hcand (Or.inl c4)) (fun _ => rfl)
          · have he := h4 c4
            have hbf := hW.b (i := f) (by omega) (by omega)
            by_cases c5 : A.B f 1 ≤ A.B i 1
            · simp (disch := omega) only [nmD, bdS, b2S, lit32, iA, iS, iM, iN, iLt, iLe, iE, zlT, zlF, zleT, zleF, zeT, zeF, RdI, WrI, DvI, jmaxI, jminI, jabsI, bI0, Zb0, Zb1, ZbI, ↓reduceIte, not_true_eq_false, not_false_eq_true, ite_not, and_true, true_and, and_false, false_and, and_self, fX7_nextBooked_j71, fX7_nextBooked_j98, he]
              exact he ▸ ih fu (i + 1) f e (by omega) (by omega) (by omega) (h3.keep c4 c5) h4
            · simp (disch := omega) only [nmD, bdS, b2S, lit32, iA, iS, iM, iN, iLt, iLe, iE, zlT, zlF, zleT, zleF, zeT, zeF, RdI, WrI, DvI, jmaxI, jminI, jabsI, bI0, Zb0, Zb1, ZbI, ↓reduceIte, not_true_eq_false, not_false_eq_true, ite_not, and_true, true_and, and_false, false_and, and_self, fX7_nextBooked_j71, fX7_nextBooked_j91, fX7_nextBooked_j98, he]
              exact ih fu (i + 1) i (A.B i 1) (by omega) (by omega) (by omega) (h3.take h0 hcand (Or.inr (by omega))) (fun _ => rfl)
      · simp (disch := omega) only [nmD, bdS, b2S, lit32, iA, iS, iM, iN, iLt, iLe, iE, zlT, zlF, zleT, zleF, zeT, zeF, RdI, WrI, DvI, jmaxI, jminI, jabsI, bI0, Zb0, Zb1, ZbI, ↓reduceIte, not_true_eq_false, not_false_eq_true, ite_not, and_true, true_and, and_false, false_and, and_self, fX7_nextBooked_j70, fX7_nextBooked_j71, fX7_nextBooked_j98]
        exact hskip (fun q => c2 q.1)
    · simp (disch := omega) only [nmD, bdS, b2S, lit32, iA, iS, iM, iN, iLt, iLe, iE, zlT, zlF, zleT, zleF, zeT, zeF, RdI, WrI, DvI, jmaxI, jminI, jabsI, bI0, Zb0, Zb1, ZbI, ↓reduceIte, not_true_eq_false, not_false_eq_true, ite_not, and_true, true_and, and_false, false_and, and_self, fX7_nextBooked_j70, fX7_nextBooked_j71, fX7_nextBooked_j98]
      exact hskip (fun q => c1 q.2.1)
theorem xNext (h : RepX V A) (hW : WF K A) {room after : Int} (hr : -2147483648 ≤ room ∧ room < 2147483648) (ha : -2147483648 ≤ after ∧ after < 2147483648) : ∃ c : Int, fX7_nextBooked V (iI room) (iI after) = some (iI c) ∧ NxU A room after A.nB c := by
  have hn := hW.n
  obtain ⟨c, h1, h2⟩ := xNext_l h hW hr ha A.nB.toNat FU 0 (-9) 0 (by omega) (by omega) (by unfold FU; omega) (Or.inl ⟨rfl, fun j h1 h2 => by omega⟩) (fun q => absurd rfl q)
  refine ⟨c, ?_, h2⟩
  simp (disch := omega) only [nmD, bdS, b2S, lit32, iA, iS, iM, iN, iLt, iLe, iE, zlT, zlF, zleT, zleF, zeT, zeF, RdI, WrI, DvI, jmaxI, jminI, jabsI, bI0, Zb0, Zb1, ZbI, ↓reduceIte, not_true_eq_false, not_false_eq_true, ite_not, and_true, true_and, and_false, false_and, and_self, fX7_nextBooked]
  exact h1
end LX
section LM
variable {A : Ab} {K : Int}
end LM
