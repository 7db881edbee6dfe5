/-! A new booking: the class's side. -/
theorem putE10 {T : Tb} {u r c : Int} {x : Int32} (hT : T.1 = iI u) (hu : u ≤ 16) (h1 : 0 ≤ r) (h2 : r < u) (h3 : 0 ≤ c) (h4 : c < 10) : ∃ T' : Tb, fX6_put 160 (iI 16) (iI 10) T (iI r) (iI c) x = some T' ∧ T'.1 = iI u ∧ T'.2 (r * 10 + c).toNat = x ∧ ∀ j : Int, 0 ≤ j → (j < r * 10 + c ∨ r * 10 + c < j) → T'.2 j.toNat = T.2 j.toNat := ⟨_, putI10 hT hu h1 h2 h3 h4, hT, ud_s, fun j j0 hj => ud_n (by omega)⟩
theorem putE4 {T : Tb} {u r c : Int} {x : Int32} (hT : T.1 = iI u) (hu : u ≤ 16) (h1 : 0 ≤ r) (h2 : r < u) (h3 : 0 ≤ c) (h4 : c < 4) : ∃ T' : Tb, fX6_put 64 (iI 16) (iI 4) T (iI r) (iI c) x = some T' ∧ T'.1 = iI u ∧ T'.2 (r * 4 + c).toNat = x ∧ ∀ j : Int, 0 ≤ j → (j < r * 4 + c ∨ r * 4 + c < j) → T'.2 j.toNat = T.2 j.toNat := ⟨_, putI4 hT hu h1 h2 h3 h4, hT, ud_s, fun j j0 hj => ud_n (by omega)⟩
section PN
variable {T : Tb} {A A' : Ab} {K : Int} {nP : Int} {pb pq pl : Int → Int}
theorem PP.nbn (h : PP T A nP pb pq pl) (enB : A'.nB = A.nB + 1) (er : A'.rows = up1 A.rows A.nB []) (eF : A'.F = A.F) (eU : A'.U = A.U) : PP T A' nP pb pq pl := by
  obtain ⟨p1, p2, p3, p4, p5, p6⟩ := h
  refine ⟨p1, p2, by omega, fun j j0 j1 => ?_, p5, fun i k i0 i1 k0 k1 => ?_⟩
  · obtain ⟨q0, q1, q2, q3, q4, q5, q6, q7, q8⟩ := p4 j j0 j1
    rw [enB, er, eF, eU, up1_n _ _ (by omega)]
    exact ⟨q0, q1, q2, q3, q4, by omega, q6, q7, q8⟩
  · rw [enB] at i1
    rw [er] at k1
    by_cases e : i = A.nB
    · rw [e, up1_s, len_nil] at k1
      omega
    · rw [up1_n _ _ (by omega)] at k1
      exact p6 i k i0 (by omega) k0 k1
theorem PP.nbp (h : PP T A nP pb pq pl) (hW : WF K A) {P : Tb} (g : P.1 = iI (nP + 1)) (g0 : P.2 (nP * 4 + 0).toNat = iI A.nB) (g1 : P.2 (nP * 4 + 1).toNat = iI (A'.F A.nB)) (g2 : P.2 (nP * 4 + 2).toNat = iI (A'.U A.nB)) (g3 : P.2 (nP * 4 + 3).toNat = iI 0) (go : ∀ j : Int, 0 ≤ j → j < nP * 4 → P.2 j.toNat = T.2 j.toNat) (enB : A'.nB = A.nB + 1) (er : A'.rows = up1 A.rows A.nB [A.nB]) (hF : ∀ p : Int, p < A.nB → A'.F p = A.F p ∧ A'.U p = A.U p) : PP P A' (nP + 1) (up1 pb nP A.nB) (up1 pq nP A.nB) (up1 pl nP 0) := by
  have hb := fun j j0 j1 => PP.b h hW (j := j) j0 j1
  have hn := hW.n
  obtain ⟨p1, p2, p3, p4, p5, p6⟩ := h
  refine ⟨g, by omega, by omega, fun j j0 j1 => ?_, fun i j i0 i1 j0 j1 e1 e2 => ?_, fun i k i0 i1 k0 k1 => ?_⟩
  · by_cases e : j = nP
    · rw [e, up1_s, up1_s, up1_s, enB, er, up1_s, len_one]
      exact ⟨g0, g1, g2, g3, by omega, by omega, by omega, by omega, rfl⟩
    · have j2 : j < nP := by omega
      obtain ⟨q0, q1, q2, q3, q4, q5, q6, q7, q8⟩ := p4 j j0 j2
      have hq := (hb j j0 j2).2.2.2.1
      rw [up1_n pb _ (by omega), up1_n pq _ (by omega), up1_n pl _ (by omega), (hF _ hq.2).1, (hF _ hq.2).2, enB, er, up1_n A.rows _ (by omega), go _ (by omega) (by omega), go _ (by omega) (by omega), go _ (by omega) (by omega), go _ (by omega) (by omega)]
      exact ⟨q0, q1, q2, q3, q4, by omega, q6, q7, q8⟩
  · by_cases e : i = nP
    · by_cases f : j = nP
      · omega
      · have q := (p4 j j0 (by omega)).2.2.2.2.2.1
        rw [e, up1_s, up1_n pb _ (by omega)] at e1
        omega
    · by_cases f : j = nP
      · have q := (p4 i i0 (by omega)).2.2.2.2.2.1
        rw [f, up1_s, up1_n pb _ (by omega)] at e1
        omega
      · rw [up1_n pb _ (by omega), up1_n pb _ (by omega)] at e1
        rw [up1_n pl _ (by omega), up1_n pl _ (by omega)] at e2
        exact p5 i j i0 (by omega) j0 (by omega) e1 e2
  · rw [enB] at i1
    rw [er] at k1
    by_cases e : i = A.nB
    · rw [e, up1_s, len_one] at k1
      exact ⟨nP, by omega, by omega, by rw [up1_s, e], by rw [up1_s]; omega⟩
    · rw [up1_n _ _ (by omega)] at k1
      obtain ⟨j, a1, a2, a3, a4⟩ := p6 i k i0 (by omega) k0 k1
      exact ⟨j, a1, by omega, by rw [up1_n pb _ (by omega)]; exact a3, by rw [up1_n pl _ (by omega)]; exact a4⟩
end PN
section XN
variable {V : Vn} {A : Ab} {K : Int}
/-- what is paid: cash and, where d is more than 0, by the voucher v -/
def Pd (V : Vn) (A : Ab) (d v : Int) (W P : Tb) : Prop := (d ≤ 0 ∧ W = V.2.2.1 ∧ P = V.2.2.2.1) ∨ (0 < d ∧ (0 ≤ v ∧ v < A.nV) ∧ W = (V.2.2.1.1, upd V.2.2.1.2 (v * 2 + 1).toNat (iI (A.V v 1 - d))) ∧ ∃ nP : Int, V.2.2.2.1.1 = iI nP ∧ 0 ≤ nP ∧ nP ≤ 16 ∧ P.1 = iI (nP + 1) ∧ P.2 (nP * 4 + 0).toNat = iI A.nB ∧ P.2 (nP * 4 + 1).toNat = iI v ∧ P.2 (nP * 4 + 2).toNat = iI d ∧ P.2 (nP * 4 + 3).toNat = iI 0 ∧ ∀ j : Int, 0 ≤ j → j < nP * 4 → P.2 j.toNat = V.2.2.2.1.2 j.toNat)
set_option maxHeartbeats 4000000 in
theorem xPay (h : RepX V A) (hW : WF K A) (hn : A.nB < 16) {T : Tb} (hT : T.1 = iI (A.nB + 1)) {c v d : Int} (hc : 0 ≤ c ∧ c ≤ 1600) (hv : (v = -1 ∧ d = 0) ∨ (0 ≤ v ∧ v < A.nV ∧ d = min c (A.V v 1))) : ∃ (T' : Tb) (W P : Tb), fX0_payCharge (V.1, T, V.2.2) (iI A.nB) (iI c) (iI v) = some (V.1, T', W, P, V.2.2.2.2.1, iI (A.t + (c - d))) ∧ T'.1 = iI (A.nB + 1) ∧ T'.2 (A.nB * 10 + 4).toNat = iI c ∧ T'.2 (A.nB * 10 + 5).toNat = iI (c - d) ∧ (∀ j : Int, 0 ≤ j → (j < A.nB * 10 + 4 ∨ A.nB * 10 + 5 < j) → T'.2 j.toNat = T.2 j.toNat) ∧ Pd V A d v W P := by
  have hN := hW.n
  obtain ⟨T4, k4, u4, e4, o4⟩ := putE10 (x := iI c) (r := A.nB) (c := 4) hT (by omega) (by omega) (by omega) (by omega) (by omega)
  obtain ⟨T5, k5, u5, e5, o5⟩ := putE10 (x := iI (c - d)) (r := A.nB) (c := 5) u4 (by omega) (by omega) (by omega) (by omega) (by omega)
  have ht : V.2.2.2.2.2 = iI A.t := h.T
  have hcells : T5.2 (A.nB * 10 + 4).toNat = iI c ∧ T5.2 (A.nB * 10 + 5).toNat = iI (c - d) ∧ (∀ j : Int, 0 ≤ j → (j < A.nB * 10 + 4 ∨ A.nB * 10 + 5 < j) → T5.2 j.toNat = T.2 j.toNat) := ⟨by rw [o5 _ (by omega) (by omega)]; exact e4, e5, fun j j0 j1 => by rw [o5 _ j0 (by omega), o4 _ j0 (by omega)]⟩
  rcases hv with ⟨rfl, rfl⟩ | ⟨v0, v1, hd⟩
  · have hc0 : fX6_cell 16 (iI 8) (iI 2) V.2.2.1 (iI (-1)) (iI 1) = some (iI 0) := cellO2 h.uV (by omega) (by omega) (by omega) (by omega) (by omega)
    have em : min c 0 = 0 := by omega
    refine ⟨T5, V.2.2.1, V.2.2.2.1, ?_, u5, hcells.1, hcells.2.1, hcells.2.2, Or.inl ⟨by omega, rfl, rfl⟩⟩
    clear hcells h hW o4 o5 e4 e5
    simp (disch := omega) only [nmD, bdS, b2S, lit32, iA, iS, iM, iN, iLt, iLe, iE, zlT, zlF, zleT, zleF, zeT, zeF, RdI, WrI, DvI, jmaxI, jminI, jabsI, bI0, Zb0, Zb1, ZbI, ↓reduceIte, not_true_eq_false, not_false_eq_true, ite_not, and_true, true_and, and_false, false_and, and_self, fX0_payCharge, fX0_payCharge_j75, hc0, em, k4, k5, ht]
  · have hcv : fX6_cell 16 (iI 8) (iI 2) V.2.2.1 (iI v) (iI 1) = some (iI (A.V v 1)) := xV h hW v0 v1 (by omega) (by omega)
    have hVb := hW.2.2.2.2.1 v v0 v1
    by_cases q : d ≤ 0
    · refine ⟨T5, V.2.2.1, V.2.2.2.1, ?_, u5, hcells.1, hcells.2.1, hcells.2.2, Or.inl ⟨q, rfl, rfl⟩⟩
      have em : min c (A.V v 1) = d := hd.symm
      clear hcells h hW o4 o5 e4 e5 hd
      simp (disch := omega) only [nmD, bdS, b2S, lit32, iA, iS, iM, iN, iLt, iLe, iE, zlT, zlF, zleT, zleF, zeT, zeF, RdI, WrI, DvI, jmaxI, jminI, jabsI, bI0, Zb0, Zb1, ZbI, ↓reduceIte, not_true_eq_false, not_false_eq_true, ite_not, and_true, true_and, and_false, false_and, and_self, fX0_payCharge, fX0_payCharge_j75, hcv, em, k4, k5, ht]
    · have em : min c (A.V v 1) = d := hd.symm
      obtain ⟨nP, pb, pq, pl, hP⟩ := h.P
      have hp := hP.n hW
      have hp2 : nP ≤ A.nB := hP.2.2.1
      have hr := raiseV h hW (v := v) (x := -d) v0 v1
      rw [show A.V v 1 + -d = A.V v 1 - d by omega] at hr
      obtain ⟨g, g1, g2, g3⟩ := addI (tn := 64) (cap := 16) (w := 4) (b := nP * 4) hP.1 (by omega) (by omega) (by omega) (by omega) (by omega) (by omega) (fun T c hT c0 c1 => putI4 hT (by omega) (by omega) (by omega) c0 c1)
      obtain ⟨P0, l0, w0, f0, y0⟩ := putE4 (T := (iI (nP + 1), g)) (x := iI A.nB) (r := nP) (c := 0) rfl (by omega) (by omega) (by omega) (by omega) (by omega)
      obtain ⟨P1, l1, w1, f1, y1⟩ := putE4 (x := iI v) (r := nP) (c := 1) w0 (by omega) (by omega) (by omega) (by omega) (by omega)
      obtain ⟨P2, l2, w2, f2, y2⟩ := putE4 (x := iI d) (r := nP) (c := 2) w1 (by omega) (by omega) (by omega) (by omega) (by omega)
      refine ⟨T5, _, P2, ?_, u5, hcells.1, hcells.2.1, hcells.2.2, Or.inr ⟨by omega, ⟨v0, v1⟩, rfl, nP, hP.1, hp.1, hp.2, w2, ?_, ?_, f2, ?_, fun j j0 j1 => ?_⟩⟩
      · clear hcells h hW o4 o5 e4 e5 hd y0 y1 y2 g2 g3 hP
        simp (disch := omega) only [nmD, bdS, b2S, lit32, iA, iS, iM, iN, iLt, iLe, iE, zlT, zlF, zleT, zleF, zeT, zeF, RdI, WrI, DvI, jmaxI, jminI, jabsI, bI0, Zb0, Zb1, ZbI, ↓reduceIte, not_true_eq_false, not_false_eq_true, ite_not, and_true, true_and, and_false, false_and, and_self, fX0_payCharge, fX0_payCharge_j75, hcv, em, k4, k5, ht, hr, g1, l0, l1, l2]
      · rw [y2 _ (by omega) (by omega), y1 _ (by omega) (by omega)]; exact f0
      · rw [y2 _ (by omega) (by omega)]; exact f1
      · rw [y2 _ (by omega) (by omega), y1 _ (by omega) (by omega), y0 _ (by omega) (by omega)]
        exact g3 _ (by omega) (by omega)
      · rw [y2 _ (by omega) (by omega), y1 _ (by omega) (by omega), y0 _ (by omega) (by omega)]
        exact g2 _ (by omega)
end XN
