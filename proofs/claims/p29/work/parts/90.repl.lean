/-! The law's six rows of ints show a venue. -/
theorem MoI {ρ : Type} {a b : Int} {k : Int32 → Option ρ} (h1 : 0 ≤ a) (h2 : a < 2147483648) (h3 : 0 < b) (h4 : b < 2147483648) : Mo (iI a) (iI b) k = k (iI (a % b)) := by
  unfold Mo
  rw [if_neg, iD h1 h2 h3 h4, iM, iS]
  · congr 2
    have := Int.emod_def a b
    rw [this, Int.mul_comm b (a / b)]
  · rw [show (0 : Int32) = iI 0 from rfl, iE (by omega) h4 (by omega) (by omega)]
    omega
theorem md_b (a : Int) {b : Int} (h : 0 < b) : 0 ≤ a % b ∧ a % b < b := ⟨Int.emod_nonneg a (by omega), Int.emod_lt_of_pos a h⟩
theorem and31 (x : Int32) : ∃ a : Int, x &&& 2147483647 = iI a ∧ 0 ≤ a ∧ a < 2147483648 := by
  have h : (x &&& 2147483647).toBitVec.toNat ≤ 2147483647 := by
    rw [Int32.toBitVec_and, BitVec.toNat_and]
    exact Nat.and_le_right
  have e : (x &&& 2147483647).toInt = ((x &&& 2147483647).toBitVec.toNat : Int) := BitVec.toInt_eq_toNat_of_lt (by omega)
  exact ⟨(x &&& 2147483647).toInt, (Int32.ofInt_toInt _).symm, by omega, by omega⟩
theorem lLow (x : Int32) {n : Int} (h1 : 0 < n) (h2 : n < 2147483648) : ∃ m : Int, fL_low x (iI n) = some (iI m) ∧ 0 ≤ m ∧ m < n := by
  obtain ⟨a, ha, a0, a1⟩ := and31 x
  refine ⟨a % n, ?_, md_b a h1⟩
  unfold fL_low
  rw [ha, MoI a0 a1 h1 h2]
/-- the payments' row: whose each is, and its stamp -/
def RQ (f : Nat → Int32) (A : Ab) (G : Int) (ow st : Int → Int) : Prop :=
  (∀ p : Int, 0 ≤ p → p < A.nB → f (4 * p + 2).toNat = iI (ow p) ∧ f (4 * p + 3).toNat = iI (st p) ∧ (-1 ≤ ow p ∧ ow p < A.nB) ∧ (0 ≤ st p ∧ st p < G) ∧ (0 ≤ ow p → f (4 * p).toNat = iI (A.F p) ∧ f (4 * p + 1).toNat = iI (A.U p) ∧ p ∈ A.rows (ow p))) ∧
  (∀ i p : Int, 0 ≤ i → i < A.nB → p ∈ A.rows i → ow p = i) ∧
  (∀ i j k : Int, 0 ≤ i → i < A.nB → 0 ≤ j → j < k → k < len (A.rows i) → st (at' (A.rows i) j) < st (at' (A.rows i) k))
def RepL (L : La) (A : Ab) (G : Int) : Prop :=
  (L.1 (0 : Int).toNat = iI A.nR ∧ L.1 (1 : Int).toNat = iI A.nB ∧ L.1 (2 : Int).toNat = iI A.nV ∧ L.1 (3 : Int).toNat = iI A.t ∧ L.1 (4 : Int).toNat = iI G) ∧
  (∀ k : Int, 0 ≤ k → k < 5 → L.2.1 k.toNat = iI (A.S k)) ∧
  (∀ r c : Int, 0 ≤ r → r < A.nR → 0 ≤ c → c < 11 → L.2.2.1 (11 * r + c).toNat = iI (A.R r c)) ∧
  (∀ i c : Int, 0 ≤ i → i < A.nB → 0 ≤ c → c < 9 → L.2.2.2.1 (9 * i + c).toNat = iI (A.B i c)) ∧
  (∀ v c : Int, 0 ≤ v → v < A.nV → 0 ≤ c → c < 2 → L.2.2.2.2.2 (2 * v + c).toNat = iI (A.V v c)) ∧
  ∃ ow st : Int → Int, RQ L.2.2.2.2.1 A G ow st
/-- the law's bounds -/
def Sma (A : Ab) : Prop := A.nR ≤ 3 ∧ A.nB ≤ 7 ∧ A.nV ≤ 4
section RL
variable {L : La} {A : Ab} {G : Int}
theorem RepL.g0 (h : RepL L A G) : L.1 (0 : Int).toNat = iI A.nR := h.1.1
theorem RepL.g1 (h : RepL L A G) : L.1 (1 : Int).toNat = iI A.nB := h.1.2.1
theorem RepL.g2 (h : RepL L A G) : L.1 (2 : Int).toNat = iI A.nV := h.1.2.2.1
theorem RepL.g3 (h : RepL L A G) : L.1 (3 : Int).toNat = iI A.t := h.1.2.2.2.1
theorem RepL.g4 (h : RepL L A G) : L.1 (4 : Int).toNat = iI G := h.1.2.2.2.2
theorem RepL.e (h : RepL L A G) {k : Int} (h1 : 0 ≤ k) (h2 : k < 5) : L.2.1 k.toNat = iI (A.S k) := h.2.1 k h1 h2
theorem RepL.R (h : RepL L A G) {r c : Int} (h1 : 0 ≤ r) (h2 : r < A.nR) (h3 : 0 ≤ c) (h4 : c < 11) : L.2.2.1 (11 * r + c).toNat = iI (A.R r c) := h.2.2.1 r c h1 h2 h3 h4
theorem RepL.R0 (h : RepL L A G) {r : Int} (h1 : 0 ≤ r) (h2 : r < A.nR) : L.2.2.1 (11 * r).toNat = iI (A.R r 0) := by
  have := h.2.2.1 r 0 h1 h2 (by omega) (by omega)
  rwa [Int.add_zero] at this
theorem RepL.B (h : RepL L A G) {i c : Int} (h1 : 0 ≤ i) (h2 : i < A.nB) (h3 : 0 ≤ c) (h4 : c < 9) : L.2.2.2.1 (9 * i + c).toNat = iI (A.B i c) := h.2.2.2.1 i c h1 h2 h3 h4
theorem RepL.B0 (h : RepL L A G) {i : Int} (h1 : 0 ≤ i) (h2 : i < A.nB) : L.2.2.2.1 (9 * i).toNat = iI (A.B i 0) := by
  have := h.2.2.2.1 i 0 h1 h2 (by omega) (by omega)
  rwa [Int.add_zero] at this
theorem RepL.V (h : RepL L A G) {v c : Int} (h1 : 0 ≤ v) (h2 : v < A.nV) (h3 : 0 ≤ c) (h4 : c < 2) : L.2.2.2.2.2 (2 * v + c).toNat = iI (A.V v c) := h.2.2.2.2.1 v c h1 h2 h3 h4
theorem RepL.V0 (h : RepL L A G) {v : Int} (h1 : 0 ≤ v) (h2 : v < A.nV) : L.2.2.2.2.2 (2 * v).toNat = iI (A.V v 0) := by
  have := h.2.2.2.2.1 v 0 h1 h2 (by omega) (by omega)
  rwa [Int.add_zero] at this
end RL
section LN
variable {L : La} {A : Ab} {G K : Int}
/-- the law's next booking -/
def nl (A : Ab) (room from' : Int) : Int := if nx A room (from' - 1) = -9 then -1 else nx A room (from' - 1)
def NlU (A : Ab) (room after n c : Int) : Prop := (c = -1 ∧ ∀ j : Int, n ≤ j → j < A.nB → ¬ Cand A room after j) ∨ (n ≤ c ∧ c < A.nB ∧ Cand A room after c ∧ ∀ j : Int, n ≤ j → j < A.nB → Cand A room after j → A.B c 1 ≤ A.B j 1)
theorem nl_U (hW : WF K A) {room after c : Int} (h : NlU A room after 0 c) : c = if nx A room after = -9 then -1 else nx A room after := by
  have hu := nxU hW room after
  rcases h with ⟨rfl, h⟩ | ⟨c0, c1, c2, c3⟩
  · rcases hu with ⟨e, -⟩ | ⟨u1, u2, u3, -⟩
    · rw [if_pos e]
    · exact absurd u3 (h _ u1 u2)
  · rcases hu with ⟨e, hu⟩ | ⟨u1, u2, u3, u4⟩
    · exact absurd c2 (hu c c0 c1)
    · rw [if_neg (by omega)]
      have e1 := c3 _ u1 u2 u3
      have e2 := u4 c c0 c1 c2
      have hr := hW.b c0 c1
      have hrr := hW.r hr.1.1 hr.1.2
      by_cases e : c = nx A room after
      · exact e
      · exfalso
        have ha := apart hW c0 c1 u1 u2 (by rw [c2.1, u3.1]) (by have := c2.2.1; omega) (by have := u3.2.1; omega) e
        have hi := iabs_le (x := A.B c 1 - A.B (nx A room after) 1)
        have e3 : A.B c 1 = A.B (nx A room after) 1 := by omega
        rw [e3, Int.sub_self] at ha
        have : iabs 0 = 0 := rfl
        omega
theorem lNext (h : RepL L A G) (hW : WF K A) (hm : Sma A) {room fr : Int} (hr : -2147483648 ≤ room ∧ room < 2147483648) (hf : 0 ≤ fr ∧ fr < 2147483647) : fL_next L (iI room) (iI fr) = some (iI (nl A room fr)) := by
  have hn := hW.n
  obtain ⟨m1, m2, m3⟩ := hm
  obtain ⟨hr1, hr2⟩ := hr
  obtain ⟨hf1, hf2⟩ := hf
  have key : ∀ (k fu : Nat) (c : Int), (k : Int) ≤ A.nB → k < fu → NlU A room (fr - 1) k c → ∃ c' : Int, fL_next_l10 L (iI room) (iI fr) fu (iI c) (iI ((k : Int) - 1)) = some (iI c') ∧ NlU A room (fr - 1) 0 c' := by
    intro k
    induction k with
    | zero =>
      intro fu c h0 h1 h2
      obtain ⟨fu, rfl⟩ : ∃ q, fu = q + 1 := ⟨fu - 1, by omega⟩
      refine ⟨c, ?_, h2⟩
      clear h2
      rw [fL_next_l10_s]
      simp (disch := omega) only [MoI, nmD, bdS, b2S, lit32, iA, iS, iM, iN, iLt, iLe, iE, zlT, zlF, zleT, zleF, zeT, zeF, RdI, WrI, DvI, jmaxI, jminI, jabsI, bI0, Zb0, Zb1, ZbI, ↓reduceIte, not_true_eq_false, not_false_eq_true, ite_not, and_true, true_and, and_false, false_and, and_self]
    | succ k ih =>
      intro fu c h0 h1 h2
      obtain ⟨fu, rfl⟩ : ∃ q, fu = q + 1 := ⟨fu - 1, by omega⟩
      have em : ((k + 1 : Nat) : Int) - 1 = k := by omega
      have hb := hW.b (i := k) (by omega) (by omega)
      have hc : c = -1 ∨ ((k : Int) + 1 ≤ c ∧ c < A.nB) := by
        rcases h2 with ⟨q, -⟩ | ⟨q1, q2, -⟩
        · exact Or.inl q
        · exact Or.inr ⟨by omega, q2⟩
      have b0 := h.B0 (i := k) (by omega) (by omega)
      have b1 := h.B (i := k) (c := 1) (by omega) (by omega) (by omega) (by omega)
      have b3 := h.B (i := k) (c := 3) (by omega) (by omega) (by omega) (by omega)
      rw [em, fL_next_l10_s]
      have keep : NlU A room (fr - 1) k c → ∃ c' : Int, fL_next_l10 L (iI room) (iI fr) fu (iI c) (iI ((k : Int) - 1)) = some (iI c') ∧ NlU A room (fr - 1) 0 c' := fun q => ih fu c (by omega) (by omega) q
      have nocand : ¬ Cand A room (fr - 1) k → NlU A room (fr - 1) k c := fun hno => by
        rcases h2 with ⟨q, q1⟩ | ⟨q1, q2, q3, q4⟩
        · refine Or.inl ⟨q, fun j j0 j1 => ?_⟩
          by_cases e : j = k
          · rw [e]; exact hno
          · exact q1 j (by omega) j1
        · refine Or.inr ⟨by omega, q2, q3, fun j j0 j1 j2 => ?_⟩
          by_cases e : j = k
          · rw [e] at j2; exact absurd j2 hno
          · exact q4 j (by omega) j1 j2
      by_cases c1 : A.B k 0 = room
      · by_cases c2 : A.B k 3 = 0
        · by_cases c3 : A.B k 1 < fr
          · have := keep (nocand (fun q => by have := q.2.2; omega))
            clear keep nocand ih h2
            simp (disch := omega) only [MoI, nmD, bdS, b2S, lit32, iA, iS, iM, iN, iLt, iLe, iE, zlT, zlF, zleT, zleF, zeT, zeF, RdI, WrI, DvI, jmaxI, jminI, jabsI, bI0, Zb0, Zb1, ZbI, ↓reduceIte, not_true_eq_false, not_false_eq_true, ite_not, and_true, true_and, and_false, false_and, and_self, b0, b1, b3, c1, c2, fL_next_j55, fL_next_j56, fL_next_j94, fL_next_j96]
            exact this
          · have hcand : Cand A room (fr - 1) k := ⟨c1, c2, by omega⟩
            by_cases c4 : c = -1
            · have := ih fu k (by omega) (by omega) (Or.inr ⟨by omega, by omega, hcand, fun j j0 j1 j2 => by
                by_cases e : j = k
                · rw [e]; omega
                · rcases h2 with ⟨q, q1⟩ | ⟨q1, q2, q3, q4⟩
                  · exact absurd j2 (q1 j (by omega) j1)
                  · omega⟩)
              clear keep nocand ih h2
              simp (disch := omega) only [MoI, nmD, bdS, b2S, lit32, iA, iS, iM, iN, iLt, iLe, iE, zlT, zlF, zleT, zleF, zeT, zeF, RdI, WrI, DvI, jmaxI, jminI, jabsI, bI0, Zb0, Zb1, ZbI, ↓reduceIte, not_true_eq_false, not_false_eq_true, ite_not, and_true, true_and, and_false, false_and, and_self, b0, b1, b3, c1, c2, fL_next_j55, fL_next_j56, fL_next_j89, fL_next_j96]
              exact this
            · have hcb := h.B (i := c) (c := 1) (by omega) (by omega) (by omega) (by omega)
              have hcw := hW.b (i := c) (by omega) (by omega)
              by_cases c5 : A.B c 1 ≤ A.B k 1
              · have := keep (by
                  rcases h2 with ⟨q, q1⟩ | ⟨q1, q2, q3, q4⟩
                  · omega
                  · refine Or.inr ⟨by omega, q2, q3, fun j j0 j1 j2 => ?_⟩
                    by_cases e : j = k
                    · rw [e]; exact c5
                    · exact q4 j (by omega) j1 j2)
                clear keep nocand ih h2
                simp (disch := omega) only [MoI, nmD, bdS, b2S, lit32, iA, iS, iM, iN, iLt, iLe, iE, zlT, zlF, zleT, zleF, zeT, zeF, RdI, WrI, DvI, jmaxI, jminI, jabsI, bI0, Zb0, Zb1, ZbI, ↓reduceIte, not_true_eq_false, not_false_eq_true, ite_not, and_true, true_and, and_false, false_and, and_self, b0, b1, b3, c1, c2, hcb, fL_next_j55, fL_next_j56, fL_next_j94, fL_next_j96]
                exact this
              · have := ih fu k (by omega) (by omega) (Or.inr ⟨by omega, by omega, hcand, fun j j0 j1 j2 => by
                  by_cases e : j = k
                  · rw [e]; omega
                  · rcases h2 with ⟨q, q1⟩ | ⟨q1, q2, q3, q4⟩
                    · exact absurd j2 (q1 j (by omega) j1)
                    · have := q4 j (by omega) j1 j2; omega⟩)
                clear keep nocand ih h2
                simp (disch := omega) only [MoI, nmD, bdS, b2S, lit32, iA, iS, iM, iN, iLt, iLe, iE, zlT, zlF, zleT, zleF, zeT, zeF, RdI, WrI, DvI, jmaxI, jminI, jabsI, bI0, Zb0, Zb1, ZbI, ↓reduceIte, not_true_eq_false, not_false_eq_true, ite_not, and_true, true_and, and_false, false_and, and_self, b0, b1, b3, c1, c2, hcb, fL_next_j55, fL_next_j56, fL_next_j89, fL_next_j96]
                exact this
        · have := keep (nocand (fun q => c2 q.2.1))
          clear keep nocand ih h2
          simp (disch := omega) only [MoI, nmD, bdS, b2S, lit32, iA, iS, iM, iN, iLt, iLe, iE, zlT, zlF, zleT, zleF, zeT, zeF, RdI, WrI, DvI, jmaxI, jminI, jabsI, bI0, Zb0, Zb1, ZbI, ↓reduceIte, not_true_eq_false, not_false_eq_true, ite_not, and_true, true_and, and_false, false_and, and_self, b0, b1, b3, c1, fL_next_j55, fL_next_j56, fL_next_j94, fL_next_j96]
          exact this
      · have := keep (nocand (fun q => c1 q.1))
        clear keep nocand ih h2
        simp (disch := omega) only [MoI, nmD, bdS, b2S, lit32, iA, iS, iM, iN, iLt, iLe, iE, zlT, zlF, zleT, zleF, zeT, zeF, RdI, WrI, DvI, jmaxI, jminI, jabsI, bI0, Zb0, Zb1, ZbI, ↓reduceIte, not_true_eq_false, not_false_eq_true, ite_not, and_true, true_and, and_false, false_and, and_self, b0, b1, b3, fL_next_j55, fL_next_j56, fL_next_j94, fL_next_j96]
        exact this
  obtain ⟨c', e1, e2⟩ := key A.nB.toNat FU (-1) (by omega) (by unfold FU; omega) (Or.inl ⟨rfl, fun j j0 j1 => by omega⟩)
  have e3 := nl_U hW e2
  have en : ((A.nB.toNat : Nat) : Int) = A.nB := by omega
  rw [en] at e1
  have g1 := h.g1
  unfold nl
  rw [← e3]
  clear key e2 e3
  simp (disch := omega) only [MoI, nmD, bdS, b2S, lit32, iA, iS, iM, iN, iLt, iLe, iE, zlT, zlF, zleT, zleF, zeT, zeF, RdI, WrI, DvI, jmaxI, jminI, jabsI, bI0, Zb0, Zb1, ZbI, ↓reduceIte, not_true_eq_false, not_false_eq_true, ite_not, and_true, true_and, and_false, false_and, and_self, fL_next, g1]
  exact e1
end LN
