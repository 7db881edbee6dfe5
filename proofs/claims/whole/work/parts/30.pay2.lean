/-! The reference's rows of payments; totals; free times. -/
section MP
variable {M : Md} {A : Ab} {K : Int}
theorem nodup_len : ∀ (n : Nat) (l : List Int), l.Nodup → (∀ x ∈ l, 0 ≤ x ∧ x < n) → l.length ≤ n := by
  intro n
  induction n with
  | zero =>
    intro l _ h
    cases l with
    | nil => exact Nat.le_refl _
    | cons a l => have := h a List.mem_cons_self; omega
  | succ n ih =>
    intro l hn h
    by_cases c : (n : Int) ∈ l
    · have h1 := ih (l.erase n) (hn.erase _) (fun x hx => by
        have hx1 := h x (List.mem_of_mem_erase hx)
        have hx2 : x ≠ (n : Int) := fun e => by
          rw [e] at hx
          exact (List.Nodup.not_mem_erase hn) hx
        omega)
      rw [List.length_erase_of_mem c] at h1
      omega
    · have h1 := ih l hn (fun x hx => by
        have hx1 := h x hx
        have hx2 : x ≠ (n : Int) := fun e => c (by rw [← e]; exact hx)
        omega)
      omega
theorem WF.ln (hW : WF K A) {i : Int} (h1 : 0 ≤ i) (h2 : i < A.nB) : 0 ≤ len (A.rows i) ∧ len (A.rows i) ≤ 16 := by
  have hn := hW.n
  have h := hW.2.2.2.2.2.1 i h1 h2
  have := nodup_len 16 (A.rows i) h.1 (fun x hx => by
    have := (h.2 x hx).1
    omega)
  unfold len
  omega
theorem mPaid (h : RepM M.1 A) (hW : WF K A) {i : Int} (h1 : 0 ≤ i) (h2 : i < A.nB) : fX9_byVouchers M (iI i) = some (iI (rsum A i)) := by
  have hn := hW.n
  have hl := hW.ln h1 h2
  have key : ∀ (k fu : Nat) (j a : Int), 0 ≤ j → j + k = len (A.rows i) → k < fu → fX9_byVouchers_l4 M (iI i) fu (iI a) (iI j) = some (iI (lp (fun j b => b + A.U (at' (A.rows i) j)) k j a)) := by
    intro k
    induction k with
    | zero =>
      intro fu j a j0 j1 j2
      obtain ⟨fu, rfl⟩ : ∃ q, fu = q + 1 := ⟨fu - 1, by omega⟩
      rw [fX9_byVouchers_l4_s, lp_z]
      simp (disch := omega) only [nmD, bdS, b2S, lit32, iA, iS, iM, iN, iLt, iLe, iE, zlT, zlF, zleT, zleF, zeT, zeF, RdI, WrI, DvI, jmaxI, jminI, jabsI, bI0, Zb0, Zb1, ZbI, ↓reduceIte, not_true_eq_false, not_false_eq_true, ite_not, and_true, true_and, and_false, false_and, and_self, h.N]
    | succ k ih =>
      intro fu j a j0 j1 j2
      obtain ⟨fu, rfl⟩ : ∃ q, fu = q + 1 := ⟨fu - 1, by omega⟩
      have hp := (hW.p h1 h2 (at_mem (l := A.rows i) (k := j) j0 (by omega))).1
      rw [fX9_byVouchers_l4_s, lp_s]
      have := ih fu (j + 1) (a + A.U (at' (A.rows i) j)) (by omega) (by omega) (by omega)
      rw [← this]
      clear ih this
      simp (disch := omega) only [nmD, bdS, b2S, lit32, iA, iS, iM, iN, iLt, iLe, iE, zlT, zlF, zleT, zleF, zeT, zeF, RdI, WrI, DvI, jmaxI, jminI, jabsI, bI0, Zb0, Zb1, ZbI, ↓reduceIte, not_true_eq_false, not_false_eq_true, ite_not, and_true, true_and, and_false, false_and, and_self, h.N, h.O, h.U]
  have e := key (len (A.rows i)).toNat FU 0 0 (by omega) (by omega) (by unfold FU; omega)
  have e1 : (len (A.rows i)).toNat = (A.rows i).length := by unfold len; omega
  rw [lp_sum0 (fun j => A.U (at' (A.rows i) j)), e1, sm_list] at e
  have e0 : (0 : Int32) = iI 0 := rfl
  unfold fX9_byVouchers
  rw [e0, e]
  rfl
theorem mLeft (h : RepM M.1 A) (hW : WF K A) {i : Int} (h1 : 0 ≤ i) (h2 : i < A.nB) : fX9_paymentsOf M (iI i) = some (iI (cn A i)) := by
  have hn := hW.n
  have hl := hW.ln h1 h2
  have key : ∀ (k fu : Nat) (j a : Int), 0 ≤ j → j + k = len (A.rows i) → k < fu → fX9_paymentsOf_l4 M (iI i) fu (iI a) (iI j) = some (iI (lp (fun j b => b + ps1 A (at' (A.rows i) j)) k j a)) := by
    intro k
    induction k with
    | zero =>
      intro fu j a j0 j1 j2
      obtain ⟨fu, rfl⟩ : ∃ q, fu = q + 1 := ⟨fu - 1, by omega⟩
      rw [fX9_paymentsOf_l4_s, lp_z]
      simp (disch := omega) only [nmD, bdS, b2S, lit32, iA, iS, iM, iN, iLt, iLe, iE, zlT, zlF, zleT, zleF, zeT, zeF, RdI, WrI, DvI, jmaxI, jminI, jabsI, bI0, Zb0, Zb1, ZbI, ↓reduceIte, not_true_eq_false, not_false_eq_true, ite_not, and_true, true_and, and_false, false_and, and_self, h.N]
    | succ k ih =>
      intro fu j a j0 j1 j2
      obtain ⟨fu, rfl⟩ : ∃ q, fu = q + 1 := ⟨fu - 1, by omega⟩
      have hq := hW.p h1 h2 (at_mem (l := A.rows i) (k := j) j0 (by omega))
      have hp := hq.1
      have hu := hq.2.2.1
      clear hq
      rw [fX9_paymentsOf_l4_s, lp_s]
      by_cases c : 0 < A.U (at' (A.rows i) j)
      · have := ih fu (j + 1) (a + 1) (by omega) (by omega) (by omega)
        rw [show ps1 A (at' (A.rows i) j) = 1 from if_pos c, ← this]
        clear ih this
        simp (disch := omega) only [nmD, bdS, b2S, lit32, iA, iS, iM, iN, iLt, iLe, iE, zlT, zlF, zleT, zleF, zeT, zeF, RdI, WrI, DvI, jmaxI, jminI, jabsI, bI0, Zb0, Zb1, ZbI, ↓reduceIte, not_true_eq_false, not_false_eq_true, ite_not, and_true, true_and, and_false, false_and, and_self, h.N, h.O, h.U, fX9_paymentsOf_j51]
      · have := ih fu (j + 1) (a + 0) (by omega) (by omega) (by omega)
        rw [show ps1 A (at' (A.rows i) j) = 0 from if_neg c, ← this]
        clear ih this
        simp (disch := omega) only [nmD, bdS, b2S, lit32, iA, iS, iM, iN, iLt, iLe, iE, zlT, zlF, zleT, zleF, zeT, zeF, RdI, WrI, DvI, jmaxI, jminI, jabsI, bI0, Zb0, Zb1, ZbI, ↓reduceIte, not_true_eq_false, not_false_eq_true, ite_not, and_true, true_and, and_false, false_and, and_self, h.N, h.O, h.U, fX9_paymentsOf_j51]
  have e := key (len (A.rows i)).toNat FU 0 0 (by omega) (by omega) (by unfold FU; omega)
  have e1 : (len (A.rows i)).toNat = (A.rows i).length := by unfold len; omega
  rw [lp_sum0 (fun j => ps1 A (at' (A.rows i) j)), e1, sm_list (ps1 A)] at e
  have e0 : (0 : Int32) = iI 0 := rfl
  unfold fX9_paymentsOf
  rw [e0, e]
  rfl
theorem mPw (h : RepM M.1 A) (hW : WF K A) {i v : Int} (h1 : 0 ≤ i) (h2 : i < A.nB) (h3 : 0 ≤ v) (h4 : v < A.nV) : (hs A v i → fX9_hasFrom M (iI i) (iI v) = some (iI 1)) ∧ (¬ hs A v i → fX9_hasFrom M (iI i) (iI v) = some (iI 0)) := by
  have hn := hW.n
  have hl := hW.ln h1 h2
  have key : ∀ (k fu : Nat) (j a : Int), 0 ≤ j → j + k = len (A.rows i) → k < fu → 0 ≤ a → a ≤ 1 → ((a = 1 ∨ ∃ z : Int, j ≤ z ∧ z < len (A.rows i) ∧ A.F (at' (A.rows i) z) = v ∧ 0 < A.U (at' (A.rows i) z)) ∧ fX9_hasFrom_l5 M (iI i) (iI v) fu (iI a) (iI j) = some (iI 1)) ∨ ((a = 0 ∧ ¬ ∃ z : Int, j ≤ z ∧ z < len (A.rows i) ∧ A.F (at' (A.rows i) z) = v ∧ 0 < A.U (at' (A.rows i) z)) ∧ fX9_hasFrom_l5 M (iI i) (iI v) fu (iI a) (iI j) = some (iI 0)) := by
    intro k
    induction k with
    | zero =>
      intro fu j a j0 j1 j2 j3 j4
      obtain ⟨fu, rfl⟩ : ∃ q, fu = q + 1 := ⟨fu - 1, by omega⟩
      by_cases c : a = 1
      · subst c
        refine Or.inl ⟨Or.inl rfl, ?_⟩
        rw [fX9_hasFrom_l5_s]
        simp (disch := omega) only [nmD, bdS, b2S, lit32, iA, iS, iM, iN, iLt, iLe, iE, zlT, zlF, zleT, zleF, zeT, zeF, RdI, WrI, DvI, jmaxI, jminI, jabsI, bI0, Zb0, Zb1, ZbI, ↓reduceIte, not_true_eq_false, not_false_eq_true, ite_not, and_true, true_and, and_false, false_and, and_self, h.N]
      · obtain rfl : a = 0 := by omega
        refine Or.inr ⟨⟨rfl, fun ⟨z, z1, z2, _⟩ => by omega⟩, ?_⟩
        rw [fX9_hasFrom_l5_s]
        simp (disch := omega) only [nmD, bdS, b2S, lit32, iA, iS, iM, iN, iLt, iLe, iE, zlT, zlF, zleT, zleF, zeT, zeF, RdI, WrI, DvI, jmaxI, jminI, jabsI, bI0, Zb0, Zb1, ZbI, ↓reduceIte, not_true_eq_false, not_false_eq_true, ite_not, and_true, true_and, and_false, false_and, and_self, h.N]
    | succ k ih =>
      intro fu j a j0 j1 j2 j3 j4
      obtain ⟨fu, rfl⟩ : ∃ q, fu = q + 1 := ⟨fu - 1, by omega⟩
      have hq := hW.p h1 h2 (at_mem (l := A.rows i) (k := j) j0 (by omega))
      have hp := hq.1
      have hf := hq.2.1
      have hu := hq.2.2.1
      clear hq
      have ih1 := ih fu (j + 1) 1 (by omega) (by omega) (by omega) (by omega) (by omega)
      have ih0 := ih fu (j + 1) 0 (by omega) (by omega) (by omega) (by omega) (by omega)
      by_cases c0 : a = 1
      · have e : fX9_hasFrom_l5 M (iI i) (iI v) (fu + 1) (iI a) (iI j) = fX9_hasFrom_l5 M (iI i) (iI v) fu (iI 1) (iI (j + 1)) := by
          clear ih ih1 ih0
          rw [fX9_hasFrom_l5_s]
          simp (disch := omega) only [nmD, bdS, b2S, lit32, iA, iS, iM, iN, iLt, iLe, iE, zlT, zlF, zleT, zleF, zeT, zeF, RdI, WrI, DvI, jmaxI, jminI, jabsI, bI0, Zb0, Zb1, ZbI, ↓reduceIte, not_true_eq_false, not_false_eq_true, ite_not, and_true, true_and, and_false, false_and, and_self, h.N, h.O, fX9_hasFrom_j71, fX9_hasFrom_j76]
        rw [e]
        rcases ih1 with ⟨q1, q⟩ | ⟨q1, q⟩
        · exact Or.inl ⟨Or.inl c0, q⟩
        · exact absurd q1.1 (by omega)
      · obtain rfl : a = 0 := by omega
        by_cases c : A.F (at' (A.rows i) j) = v ∧ 0 < A.U (at' (A.rows i) j)
        · have e : fX9_hasFrom_l5 M (iI i) (iI v) (fu + 1) (iI 0) (iI j) = fX9_hasFrom_l5 M (iI i) (iI v) fu (iI 1) (iI (j + 1)) := by
            obtain ⟨ca, cb⟩ := c
            clear ih ih1 ih0
            rw [fX9_hasFrom_l5_s]
            simp (disch := omega) only [nmD, bdS, b2S, lit32, iA, iS, iM, iN, iLt, iLe, iE, zlT, zlF, zleT, zleF, zeT, zeF, RdI, WrI, DvI, jmaxI, jminI, jabsI, bI0, Zb0, Zb1, ZbI, ↓reduceIte, not_true_eq_false, not_false_eq_true, ite_not, and_true, true_and, and_false, false_and, and_self, h.N, h.O, h.F, h.U, fX9_hasFrom_j71, fX9_hasFrom_j76]
          rw [e]
          rcases ih1 with ⟨q1, q⟩ | ⟨q1, q⟩
          · exact Or.inl ⟨Or.inr ⟨j, by omega, by omega, c⟩, q⟩
          · exact absurd q1.1 (by omega)
        · have e : fX9_hasFrom_l5 M (iI i) (iI v) (fu + 1) (iI 0) (iI j) = fX9_hasFrom_l5 M (iI i) (iI v) fu (iI 0) (iI (j + 1)) := by
            clear ih ih1 ih0
            rw [fX9_hasFrom_l5_s]
            by_cases ca : A.F (at' (A.rows i) j) = v
            · have cb : ¬ 0 < A.U (at' (A.rows i) j) := fun q => c ⟨ca, q⟩
              clear c
              simp (disch := omega) only [nmD, bdS, b2S, lit32, iA, iS, iM, iN, iLt, iLe, iE, zlT, zlF, zleT, zleF, zeT, zeF, RdI, WrI, DvI, jmaxI, jminI, jabsI, bI0, Zb0, Zb1, ZbI, ↓reduceIte, not_true_eq_false, not_false_eq_true, ite_not, and_true, true_and, and_false, false_and, and_self, h.N, h.O, h.F, h.U, fX9_hasFrom_j75, fX9_hasFrom_j76]
            · clear c
              simp (disch := omega) only [nmD, bdS, b2S, lit32, iA, iS, iM, iN, iLt, iLe, iE, zlT, zlF, zleT, zleF, zeT, zeF, RdI, WrI, DvI, jmaxI, jminI, jabsI, bI0, Zb0, Zb1, ZbI, ↓reduceIte, not_true_eq_false, not_false_eq_true, ite_not, and_true, true_and, and_false, false_and, and_self, h.N, h.O, h.F, h.U, fX9_hasFrom_j75, fX9_hasFrom_j76]
          rw [e]
          rcases ih0 with ⟨q1, q⟩ | ⟨⟨_, q1⟩, q⟩
          · rcases q1 with q1 | ⟨z, z1, z2, z3⟩
            · omega
            · exact Or.inl ⟨Or.inr ⟨z, by omega, z2, z3⟩, q⟩
          · refine Or.inr ⟨⟨rfl, fun ⟨z, z1, z2, z3⟩ => ?_⟩, q⟩
            by_cases ez : z = j
            · subst ez; exact c z3
            · exact q1 ⟨z, by omega, z2, z3⟩
  have e := key (len (A.rows i)).toNat FU 0 0 (by omega) (by omega) (by unfold FU; omega) (by omega) (by omega)
  have e0 : (0 : Int32) = iI 0 := rfl
  unfold fX9_hasFrom
  rw [e0]
  have hex : (∃ z : Int, 0 ≤ z ∧ z < len (A.rows i) ∧ A.F (at' (A.rows i) z) = v ∧ 0 < A.U (at' (A.rows i) z)) ↔ hs A v i := by
    refine ⟨fun ⟨z, z1, z2, z3⟩ => ⟨_, at_mem z1 z2, z3⟩, fun ⟨p, p1, p2⟩ => ?_⟩
    obtain ⟨k, k1, k2, k3⟩ := at_of p1
    exact ⟨k, k1, k2, by rw [k3]; exact p2⟩
  rcases e with ⟨q1, q2⟩ | ⟨⟨_, q1⟩, q2⟩
  · rcases q1 with q1 | q1
    · omega
    · exact ⟨fun _ => q2, fun q => absurd (hex.mp q1) q⟩
  · exact ⟨fun q => absurd (hex.mpr q) q1, fun _ => q2⟩
end MP
