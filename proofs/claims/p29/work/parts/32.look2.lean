/-! What is looked at: room, booking, voucher, money. -/
theorem xTot {n : Nat} {cap w : Int32} {T : Tb} {c u : Int} (hT : T.1 = iI u) (h1 : 0 ≤ u) (h2 : u ≤ 16) (g : Int → Int) (hc : ∀ r : Int, 0 ≤ r → r < u → fX6_cell n cap w T (iI r) (iI c) = some (iI (g r))) : fX6_total n cap w T (iI c) = some (iI (sm g u.toNat)) := by
  have key : ∀ (k fu : Nat) (j a : Int), 0 ≤ j → j + k = u → k < fu → fX6_total_l4 n cap w T (iI c) fu (iI a) (iI j) = some (iI (lp (fun j b => b + g j) k j a)) := by
    intro k
    induction k with
    | zero =>
      intro fu j a j0 j1 j2
      obtain ⟨fu, rfl⟩ : ∃ q, fu = q + 1 := ⟨fu - 1, by omega⟩
      rw [fX6_total_l4_s, lp_z]
      clear hc
      simp (disch := omega) only [nmD, bdS, b2S, lit32, iA, iS, iM, iN, iLt, iLe, iE, zlT, zlF, zleT, zleF, zeT, zeF, RdI, WrI, DvI, jmaxI, jminI, jabsI, bI0, Zb0, Zb1, ZbI, ↓reduceIte, not_true_eq_false, not_false_eq_true, ite_not, and_true, true_and, and_false, false_and, and_self, hT]
    | succ k ih =>
      intro fu j a j0 j1 j2
      obtain ⟨fu, rfl⟩ : ∃ q, fu = q + 1 := ⟨fu - 1, by omega⟩
      have hj := hc j j0 (by omega)
      rw [fX6_total_l4_s, lp_s]
      have := ih fu (j + 1) (a + g j) (by omega) (by omega) (by omega)
      rw [← this]
      clear ih this hc
      simp (disch := omega) only [nmD, bdS, b2S, lit32, iA, iS, iM, iN, iLt, iLe, iE, zlT, zlF, zleT, zleF, zeT, zeF, RdI, WrI, DvI, jmaxI, jminI, jabsI, bI0, Zb0, Zb1, ZbI, ↓reduceIte, not_true_eq_false, not_false_eq_true, ite_not, and_true, true_and, and_false, false_and, and_self, hT, hj]
  have e := key u.toNat FU 0 0 (by omega) (by omega) (by unfold FU; omega)
  rw [lp_sum0] at e
  have e0 : (0 : Int32) = iI 0 := rfl
  unfold fX6_total
  rw [e0, e]
noncomputable def hv (A : Ab) (v b : Int) : Int := @ite _ (hs A v b) (Classical.propDecidable _) 1 0
theorem hv_t {A : Ab} {v b : Int} (h : hs A v b) : hv A v b = 1 := by unfold hv; rw [if_pos h]
theorem hv_f {A : Ab} {v b : Int} (h : ¬ hs A v b) : hv A v b = 0 := by unfold hv; rw [if_neg h]
section LK
variable {M : Xm} {A : Ab} {K : Int}
theorem xPwN {V : Vn} (h : RepX V A) (hW : WF K A) {v : Int} (h3 : 0 ≤ v) (h4 : v < A.nV) : fX7_bookingsPaidWith V (iI v) = some (iI (sm (hv A v) A.nB.toNat)) := by
  have hn := hW.n
  have key : ∀ (k fu : Nat) (j a : Int), 0 ≤ j → j + k = A.nB → k < fu → fX7_bookingsPaidWith_l4 V (iI v) fu (iI a) (iI j) = some (iI (lp (fun j b => b + hv A v j) k j a)) := by
    intro k
    induction k with
    | zero =>
      intro fu j a j0 j1 j2
      obtain ⟨fu, rfl⟩ : ∃ q, fu = q + 1 := ⟨fu - 1, by omega⟩
      rw [fX7_bookingsPaidWith_l4_s, lp_z]
      simp (disch := omega) only [nmD, bdS, b2S, lit32, iA, iS, iM, iN, iLt, iLe, iE, zlT, zlF, zleT, zleF, zeT, zeF, RdI, WrI, DvI, jmaxI, jminI, jabsI, bI0, Zb0, Zb1, ZbI, ↓reduceIte, not_true_eq_false, not_false_eq_true, ite_not, and_true, true_and, and_false, false_and, and_self, xSizeB h]
    | succ k ih =>
      intro fu j a j0 j1 j2
      obtain ⟨fu, rfl⟩ : ∃ q, fu = q + 1 := ⟨fu - 1, by omega⟩
      have hp := xPw h hW (i := j) j0 (by omega) h3 h4
      rw [fX7_bookingsPaidWith_l4_s, lp_s]
      by_cases c : hs A v j
      · have := ih fu (j + 1) (a + 1) (by omega) (by omega) (by omega)
        rw [hv_t c, ← this]
        have hp := hp.1 c
        clear ih this
        simp (disch := omega) only [nmD, bdS, b2S, lit32, iA, iS, iM, iN, iLt, iLe, iE, zlT, zlF, zleT, zleF, zeT, zeF, RdI, WrI, DvI, jmaxI, jminI, jabsI, bI0, Zb0, Zb1, ZbI, ↓reduceIte, not_true_eq_false, not_false_eq_true, ite_not, and_true, true_and, and_false, false_and, and_self, xSizeB h, hp, fX7_bookingsPaidWith_j27]
      · have := ih fu (j + 1) a (by omega) (by omega) (by omega)
        rw [hv_f c, Int.add_zero, ← this]
        have hp := hp.2 c
        clear ih this
        simp (disch := omega) only [nmD, bdS, b2S, lit32, iA, iS, iM, iN, iLt, iLe, iE, zlT, zlF, zleT, zleF, zeT, zeF, RdI, WrI, DvI, jmaxI, jminI, jabsI, bI0, Zb0, Zb1, ZbI, ↓reduceIte, not_true_eq_false, not_false_eq_true, ite_not, and_true, true_and, and_false, false_and, and_self, xSizeB h, hp, fX7_bookingsPaidWith_j27]
  have e := key A.nB.toNat FU 0 0 (by omega) (by omega) (by unfold FU; omega)
  rw [lp_sum0] at e
  have e0 : (0 : Int32) = iI 0 := rfl
  unfold fX7_bookingsPaidWith
  rw [e0, e]
theorem sm_0 (n : Nat) : sm (fun _ => 0) n = 0 := sm_zero n (fun _ _ _ => rfl)
theorem payTot {T : Tb} {nP : Int} {pb pq pl : Int → Int} (h : PP T A nP pb pq pl) (hW : WF K A) : sm (fun j => A.U (pq j)) nP.toNat = sm (rsum A) A.nB.toNat := by
  have hn := hW.n
  have hp := h.n hW
  have e1 : sm (rsum A) A.nB.toNat = sm (fun b => sm (fun j => if pb j = b then A.U (pq j) else 0) nP.toNat) A.nB.toNat := sm_cong _ (fun b b0 b1 => (h.sum A.U b0 (by omega)).symm)
  rw [e1, sm_swap]
  refine sm_cong _ (fun j j0 j1 => ?_)
  have hb := (h.b hW j0 (by omega)).1
  rw [sm_one hb.1 A.nB.toNat (by omega) (fun i _ _ i2 => if_neg (fun e => i2 e.symm)), if_pos rfl]
end LK
