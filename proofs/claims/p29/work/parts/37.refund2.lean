/-! The loops that refund. -/
section RX2
variable {V : Vn} {A : Ab} {K : Int} {nP : Int} {pb pq pl : Int → Int}
theorem xPayAt (hW : WF K A) (hP : PP V.2.2.2.1 A nP pb pq pl) {i s : Int} (h1 : 0 ≤ i) (h2 : i < A.nB) (h3 : 0 ≤ s) (h4 : s < 16) : (s < len (A.rows i) → ∃ j : Int, 0 ≤ j ∧ j < nP ∧ pq j = at' (A.rows i) s ∧ fX7_paymentAt V (iI i) (iI s) = some (iI j)) ∧ (len (A.rows i) ≤ s → fX7_paymentAt V (iI i) (iI s) = some (iI (-9))) := by
  have hn := hW.n
  have hp := hP.n hW
  have key : ∀ (k fu : Nat) (j : Int), 0 ≤ j → j + k = nP → k < fu → (∃ z : Int, j ≤ z ∧ z < nP ∧ (pb z = i ∧ pl z = s) ∧ fX7_paymentAt_l2 V (iI i) (iI s) fu (iI j) = some (iI z)) ∨ ((∀ z : Int, j ≤ z → z < nP → ¬ (pb z = i ∧ pl z = s)) ∧ fX7_paymentAt_l2 V (iI i) (iI s) fu (iI j) = some (iI (-9))) := by
    intro k
    induction k with
    | zero =>
      intro fu j j0 j1 j2
      obtain ⟨fu, rfl⟩ : ∃ q, fu = q + 1 := ⟨fu - 1, by omega⟩
      refine Or.inr ⟨fun z z1 z2 => by omega, ?_⟩
      rw [fX7_paymentAt_l2_s]
      simp (disch := omega) only [nmD, bdS, b2S, lit32, iA, iS, iM, iN, iLt, iLe, iE, zlT, zlF, zleT, zleF, zeT, zeF, RdI, WrI, DvI, jmaxI, jminI, jabsI, bI0, Zb0, Zb1, ZbI, ↓reduceIte, not_true_eq_false, not_false_eq_true, ite_not, and_true, true_and, and_false, false_and, and_self, hP.sz]
    | succ k ih =>
      intro fu j j0 j1 j2
      obtain ⟨fu, rfl⟩ : ∃ q, fu = q + 1 := ⟨fu - 1, by omega⟩
      have hb := hP.b hW j0 (by omega)
      have hb1 := hb.1
      have hb2 := hb.2.1
      have hln := hW.ln hb1.1 hb1.2
      clear hb
      by_cases c : pb j = i ∧ pl j = s
      · refine Or.inl ⟨j, by omega, by omega, c, ?_⟩
        obtain ⟨ca, cb⟩ := c
        clear ih
        rw [fX7_paymentAt_l2_s]
        simp (disch := omega) only [nmD, bdS, b2S, lit32, iA, iS, iM, iN, iLt, iLe, iE, zlT, zlF, zleT, zleF, zeT, zeF, RdI, WrI, DvI, jmaxI, jminI, jabsI, bI0, Zb0, Zb1, ZbI, ↓reduceIte, not_true_eq_false, not_false_eq_true, ite_not, and_true, true_and, and_false, false_and, and_self, hP.sz, hP.c0 hW, hP.c3 hW]
      · have e : fX7_paymentAt_l2 V (iI i) (iI s) (fu + 1) (iI j) = fX7_paymentAt_l2 V (iI i) (iI s) fu (iI (j + 1)) := by
          clear ih
          rw [fX7_paymentAt_l2_s]
          by_cases ca : pb j = i
          · have cb : ¬ pl j = s := fun q => c ⟨ca, q⟩
            clear c
            simp (disch := omega) only [nmD, bdS, b2S, lit32, iA, iS, iM, iN, iLt, iLe, iE, zlT, zlF, zleT, zleF, zeT, zeF, RdI, WrI, DvI, jmaxI, jminI, jabsI, bI0, Zb0, Zb1, ZbI, ↓reduceIte, not_true_eq_false, not_false_eq_true, ite_not, and_true, true_and, and_false, false_and, and_self, hP.sz, hP.c0 hW, hP.c3 hW, fX7_paymentAt_j41]
          · clear c
            simp (disch := omega) only [nmD, bdS, b2S, lit32, iA, iS, iM, iN, iLt, iLe, iE, zlT, zlF, zleT, zleF, zeT, zeF, RdI, WrI, DvI, jmaxI, jminI, jabsI, bI0, Zb0, Zb1, ZbI, ↓reduceIte, not_true_eq_false, not_false_eq_true, ite_not, and_true, true_and, and_false, false_and, and_self, hP.sz, hP.c0 hW, hP.c3 hW, fX7_paymentAt_j41]
        rw [e]
        rcases ih fu (j + 1) (by omega) (by omega) (by omega) with ⟨z, z1, z2, z3, z4⟩ | ⟨q1, q2⟩
        · exact Or.inl ⟨z, by omega, z2, z3, z4⟩
        · refine Or.inr ⟨fun z z1 z2 => ?_, q2⟩
          by_cases ez : z = j
          · subst ez; exact c
          · exact q1 z (by omega) z2
  have e := key nP.toNat FU 0 (by omega) (by omega) (by unfold FU; omega)
  have e0 : (0 : Int32) = iI 0 := rfl
  unfold fX7_paymentAt
  rw [e0]
  rcases e with ⟨z, z1, z2, ⟨z3, z5⟩, z4⟩ | ⟨q1, q2⟩
  · obtain ⟨-, -, -, -, -, -, -, b4, b5⟩ := hP.2.2.2.1 z z1 z2
    rw [z3] at b4 b5
    rw [z5] at b4 b5
    exact ⟨fun _ => ⟨z, z1, z2, b5.symm, z4⟩, fun q => by omega⟩
  · refine ⟨fun q => ?_, fun _ => q2⟩
    obtain ⟨j, a1, a2, a3, a4⟩ := hP.2.2.2.2.2 i s h1 h2 h3 q
    exact absurd ⟨a3, a4⟩ (q1 j a1 a2)
theorem raiseP (hW : WF K A) {T : Tb} (hP : PP T A nP pb pq pl) {j x : Int} (h1 : 0 ≤ j) (h2 : j < nP) : fX6_raise 64 (iI 16) (iI 4) T (iI j) (iI 2) (iI x) = some (T.1, upd T.2 (j * 4 + 2).toNat (iI (A.U (pq j) + x))) := by
  have hp := hP.n hW
  simp (disch := omega) only [nmD, bdS, b2S, lit32, iA, iS, iM, iN, iLt, iLe, iE, zlT, zlF, zleT, zleF, zeT, zeF, RdI, WrI, DvI, jmaxI, jminI, jabsI, bI0, Zb0, Zb1, ZbI, ↓reduceIte, not_true_eq_false, not_false_eq_true, ite_not, and_true, true_and, and_false, false_and, and_self, fX6_raise, hP.c2 hW, putI4 hP.1]
theorem raiseV (h : RepX V A) (hW : WF K A) {v x : Int} (h1 : 0 ≤ v) (h2 : v < A.nV) : fX6_raise 16 (iI 8) (iI 2) V.2.2.1 (iI v) (iI 1) (iI x) = some (V.2.2.1.1, upd V.2.2.1.2 (v * 2 + 1).toNat (iI (A.V v 1 + x))) := by
  have hn := hW.n
  simp (disch := omega) only [nmD, bdS, b2S, lit32, iA, iS, iM, iN, iLt, iLe, iE, zlT, zlF, zleT, zleF, zeT, zeF, RdI, WrI, DvI, jmaxI, jminI, jabsI, bI0, Zb0, Zb1, ZbI, ↓reduceIte, not_true_eq_false, not_false_eq_true, ite_not, and_true, true_and, and_false, false_and, and_self, fX6_raise, xV h hW, putI2 h.uV]
theorem raiseB (h : RepX V A) (hW : WF K A) {i c x : Int} (h1 : 0 ≤ i) (h2 : i < A.nB) (h3 : 0 ≤ c) (h4 : c < 6) : fX6_raise 160 (iI 16) (iI 10) V.2.1 (iI i) (iI c) (iI x) = some (V.2.1.1, upd V.2.1.2 (i * 10 + c).toNat (iI (A.B i c + x))) := by
  have hn := hW.n
  simp (disch := omega) only [nmD, bdS, b2S, lit32, iA, iS, iM, iN, iLt, iLe, iE, zlT, zlF, zleT, zleF, zeT, zeF, RdI, WrI, DvI, jmaxI, jminI, jabsI, bI0, Zb0, Zb1, ZbI, ↓reduceIte, not_true_eq_false, not_false_eq_true, ite_not, and_true, true_and, and_false, false_and, and_self, fX6_raise, xB h hW, putI10 h.uB]
theorem raiseR (h : RepX V A) (hW : WF K A) {i c x : Int} (h1 : 0 ≤ i) (h2 : i < A.nR) (h3 : 0 ≤ c) (h4 : c < 11) : fX6_raise 44 (iI 4) (iI 11) V.1 (iI i) (iI c) (iI x) = some (V.1.1, upd V.1.2 (i * 11 + c).toNat (iI (A.R i c + x))) := by
  have hn := hW.n
  simp (disch := omega) only [nmD, bdS, b2S, lit32, iA, iS, iM, iN, iLt, iLe, iE, zlT, zlF, zleT, zleF, zeT, zeF, RdI, WrI, DvI, jmaxI, jminI, jabsI, bI0, Zb0, Zb1, ZbI, ↓reduceIte, not_true_eq_false, not_false_eq_true, ite_not, and_true, true_and, and_false, false_and, and_self, fX6_raise, xR h hW, putI11 h.uR]
def stq (A : Ab) (p l : Int) : Ab := (A.setU p (A.U p - min l (A.U p))).setV (A.F p) 1 (A.V (A.F p) 1 + min l (A.U p))
theorem stp_stq (A : Ab) (i : Int) (k : Nat) (l : Int) : stp A i k l = stq A (at' (A.rows i) k) l := rfl
theorem stq_0 {p l : Int} (h : min l (A.U p) = 0) : stq A p l = A := by
  unfold stq
  rw [h, Int.sub_zero, Int.add_zero]
  unfold Ab.setU
  rw [up1_id]
  show mkA A.R A.B (up2 A.V _ 1 (A.V _ 1)) A.S A.rows A.F A.U A.nR A.nB A.nV A.t = A
  rw [up2_id]
  rfl
theorem xRP (h : RepX V A) (hW : WF K A) (hP : PP V.2.2.2.1 A nP pb pq pl) {j l : Int} (h1 : 0 ≤ j) (h2 : j < nP) (h3 : 0 ≤ l) (h4 : l ≤ 1600) : ∃ V' : Vn, fX0_refundPayment V (iI j) (iI l) = some (iI (min l (A.U (pq j))), V') ∧ RepX V' (stq A (pq j) l) ∧ PP V'.2.2.2.1 (stq A (pq j) l) nP pb pq pl := by
  have hn := hW.n
  have hp := hP.n hW
  have hb := hP.b hW h1 h2
  have hf := hb.2.2.2.2.1
  have hu := hb.2.2.2.2.2
  clear hb
  by_cases c : min l (A.U (pq j)) ≤ 0
  · have e : min l (A.U (pq j)) = 0 := by omega
    refine ⟨V, ?_, by rw [stq_0 e]; exact h, by rw [stq_0 e]; exact hP⟩
    simp (disch := omega) only [nmD, bdS, b2S, lit32, iA, iS, iM, iN, iLt, iLe, iE, zlT, zlF, zleT, zleF, zeT, zeF, RdI, WrI, DvI, jmaxI, jminI, jabsI, bI0, Zb0, Zb1, ZbI, ↓reduceIte, not_true_eq_false, not_false_eq_true, ite_not, and_true, true_and, and_false, false_and, and_self, fX0_refundPayment, fX0_refundPayment_j47, hP.c2 hW]
  · obtain ⟨hX1, hP1⟩ := h.setU hW hP (v := A.U (pq j) - min l (A.U (pq j))) h1 h2
    have hr1 := raiseP hW hP (x := -min l (A.U (pq j))) h1 h2
    have hc1 : fX6_cell 64 (iI 16) (iI 4) (V.2.2.2.1.1, upd V.2.2.2.1.2 (j * 4 + 2).toNat (iI (A.U (pq j) - min l (A.U (pq j))))) (iI j) (iI 1) = some (iI (A.F (pq j))) := by
      rw [cellI4 hP1.1 (by omega) h1 h2 (by omega) (by omega), (hP1.2.2.2.1 j h1 h2).2.1]
      rfl
    have hr2 := raiseV h hW (v := A.F (pq j)) (x := min l (A.U (pq j))) hf.1 hf.2
    refine ⟨(V.1, V.2.1, (V.2.2.1.1, upd V.2.2.1.2 (A.F (pq j) * 2 + 1).toNat (iI (A.V (A.F (pq j)) 1 + min l (A.U (pq j))))), (V.2.2.2.1.1, upd V.2.2.2.1.2 (j * 4 + 2).toNat (iI (A.U (pq j) - min l (A.U (pq j))))), V.2.2.2.2), ?_, ?_, hP1⟩
    · clear hX1 hP1
      rw [show A.U (pq j) + -min l (A.U (pq j)) = A.U (pq j) - min l (A.U (pq j)) by omega] at hr1
      simp (disch := omega) only [nmD, bdS, b2S, lit32, iA, iS, iM, iN, iLt, iLe, iE, zlT, zlF, zleT, zleF, zeT, zeF, RdI, WrI, DvI, jmaxI, jminI, jabsI, bI0, Zb0, Zb1, ZbI, ↓reduceIte, not_true_eq_false, not_false_eq_true, ite_not, and_true, true_and, and_false, false_and, and_self, fX0_refundPayment, fX0_refundPayment_j47, hP.c2 hW, hr1, hc1, hr2]
    · exact RepX.setV hX1 (i := A.F (pq j)) (c := 1) hf.1 hf.2 (by omega) (by omega)
theorem rf_0 {i : Int} (hU : ∀ p : Int, p ∈ A.rows i → 0 ≤ A.U p) : ∀ k : Nat, (k : Int) ≤ len (A.rows i) → rf i k 0 A = (A, 0)
  | 0, _ => rfl
  | k + 1, h => by
    have hu := hU _ (at_mem (l := A.rows i) (k := k) (by omega) (by omega))
    rw [rf_s, stp_0 hu, show min 0 (A.U (at' (A.rows i) k)) = 0 by omega, Int.sub_zero]
    exact rf_0 hU k (by omega)
theorem sm_pos {g : Int → Int} : ∀ n : Nat, (∀ j : Int, 0 ≤ j → j < n → 0 ≤ g j) → 0 ≤ sm g n
  | 0, _ => Int.le_refl 0
  | n + 1, e => by
    have h1 := sm_pos n (fun j j0 j1 => e j j0 (by omega))
    have h2 := e n (by omega) (by omega)
    rw [sm_s]
    omega
theorem rf_left (hW : WF K A) {i : Int} (h1 : 0 ≤ i) (h2 : i < A.nB) : ∀ (k : Nat) (l : Int) (B : Ab), (k : Int) ≤ len (A.rows i) → B.rows = A.rows → (∀ j : Int, 0 ≤ j → j < k → B.U (at' (A.rows i) j) = A.U (at' (A.rows i) j)) → 0 ≤ l → l ≤ sm (fun j => A.U (at' (A.rows i) j)) k → (rf i k l B).2 = 0
  | 0, l, B, _, _, _, h3, h4 => by
    have : sm (fun j => A.U (at' (A.rows i) j)) 0 = 0 := rfl
    show l = 0
    omega
  | k + 1, l, B, h5, h6, h7, h3, h4 => by
    rw [rf_s]
    have hk := h7 k (by omega) (by omega)
    rw [sm_s] at h4
    have hu := (nodup_at hW h1 h2 (k := k) (by omega) (by omega)).2.2
    have hsp := sm_pos (g := fun j => A.U (at' (A.rows i) j)) k (fun j j0 j1 => (nodup_at hW h1 h2 (k := j) j0 (by omega)).2.2.1)
    refine rf_left hW h1 h2 k _ _ (by omega) h6 (fun j j0 j1 => ?_) (by rw [h6]; omega) (by rw [h6, hk]; omega)
    have hne : at' (A.rows i) j ≠ at' (A.rows i) k := fun e => by
      have := at_inj (hW.2.2.2.2.2.1 i h1 h2).1 j0 (by omega) (by omega) (by omega) e
      omega
    rw [← h7 j j0 (by omega)]
    show up1 B.U (at' (B.rows i) k) _ (at' (A.rows i) j) = _
    rw [h6]
    exact if_neg hne
set_option maxHeartbeats 4000000 in
theorem xRf {i C : Int} (hC : C ≤ 500 + 2000 * K) (x2 : Int32) (kk : Vn → Int32 → Option Vn) : ∀ (m fu : Nat) (l : Int) (A : Ab) (V : Vn), RepX V A → PP V.2.2.2.1 A nP pb pq pl → WF K A → RI C A i l → m ≤ 16 → m < fu → ∃ V' : Vn, fX0_refund_l47 (iI i) x2 kk fu V (iI l) (iI ((m : Int) - 1)) = kk V' (iI (rf i (min m (len (A.rows i)).toNat) l A).2) ∧ RepX V' (rf i (min m (len (A.rows i)).toNat) l A).1 := by
  intro m
  induction m with
  | zero =>
    intro fu l A V hX hP hW hI h1 h2
    obtain ⟨fu, rfl⟩ : ∃ q, fu = q + 1 := ⟨fu - 1, by omega⟩
    rw [Nat.zero_min]
    refine ⟨V, ?_, hX⟩
    have l0 := hI.1
    have l1 := hI.2.1
    clear hI
    rw [fX0_refund_l47_s]
    show _ = kk V (iI l)
    simp (disch := omega) only [nmD, bdS, b2S, lit32, iA, iS, iM, iN, iLt, iLe, iE, zlT, zlF, zleT, zleF, zeT, zeF, RdI, WrI, DvI, jmaxI, jminI, jabsI, bI0, Zb0, Zb1, ZbI, ↓reduceIte, not_true_eq_false, not_false_eq_true, ite_not, and_true, true_and, and_false, false_and, and_self]
  | succ m ih =>
    intro fu l A V hX hP hW hI h1 h2
    obtain ⟨fu, rfl⟩ : ∃ q, fu = q + 1 := ⟨fu - 1, by omega⟩
    obtain ⟨l0, l1, ⟨i0, i1, i2⟩, hv⟩ := id hI
    have hln := hW.ln i0 i1
    have em : ((m + 1 : Nat) : Int) - 1 = m := by omega
    rw [em]
    by_cases c : l ≤ 0
    · have e : l = 0 := by omega
      subst e
      have hz := rf_0 (A := A) (i := i) (fun p hp => (hW.p i0 i1 hp).2.2.1.1) (min (m + 1) (len (A.rows i)).toNat) (by omega)
      rw [hz]
      refine ⟨V, ?_, hX⟩
      clear ih hI hv hz
      rw [fX0_refund_l47_s]
      simp (disch := omega) only [nmD, bdS, b2S, lit32, iA, iS, iM, iN, iLt, iLe, iE, zlT, zlF, zleT, zleF, zeT, zeF, RdI, WrI, DvI, jmaxI, jminI, jabsI, bI0, Zb0, Zb1, ZbI, ↓reduceIte, not_true_eq_false, not_false_eq_true, ite_not, and_true, true_and, and_false, false_and, and_self]
    · have hpa := xPayAt (V := V) hW hP (i := i) (s := m) i0 i1 (by omega) (by omega)
      by_cases c2 : (m : Int) < len (A.rows i)
      · obtain ⟨j, j0, j1, j2, j3⟩ := hpa.1 c2
        obtain ⟨V', e1, e2, e3⟩ := xRP hX hW hP (l := l) j0 j1 l0 l1
        rw [j2] at e1 e2 e3
        obtain ⟨w1, w2⟩ := WF.st hW hI (k := m) c2 hC
        obtain ⟨V'', f1, f2⟩ := ih fu (l - min l (A.U (at' (A.rows i) m))) (stp A i m l) V' e2 e3 w1 w2 (by omega) (by omega)
        rw [show min (m + 1) (len (A.rows i)).toNat = m + 1 by omega, rf_s]
        rw [show min m (len ((stp A i m l).rows i)).toNat = m from Nat.min_eq_left (by show m ≤ (len (A.rows i)).toNat; omega)] at f1 f2
        refine ⟨V'', ?_, f2⟩
        rw [← f1]
        clear ih hI hv w1 w2 f1 f2 e2 e3 hpa
        rw [fX0_refund_l47_s]
        simp (disch := omega) only [nmD, bdS, b2S, lit32, iA, iS, iM, iN, iLt, iLe, iE, zlT, zlF, zleT, zleF, zeT, zeF, RdI, WrI, DvI, jmaxI, jminI, jabsI, bI0, Zb0, Zb1, ZbI, ↓reduceIte, not_true_eq_false, not_false_eq_true, ite_not, and_true, true_and, and_false, false_and, and_self, j3, e1]
        rfl
      · have j3 := hpa.2 (by omega)
        have hpn := hP.n hW
        have e1 : fX0_refundPayment V (iI (-9)) (iI l) = some (iI 0, V) := by
          have hc0 : fX6_cell 64 (iI 16) (iI 4) V.2.2.2.1 (iI (-9)) (iI 2) = some (iI 0) := cellO4 hP.1 hpn.2 hpn.1 (by omega) (by omega) (by omega)
          clear ih hI hv hpa
          have em2 : min l 0 = 0 := by omega
          simp (disch := omega) only [nmD, bdS, b2S, lit32, iA, iS, iM, iN, iLt, iLe, iE, zlT, zlF, zleT, zleF, zeT, zeF, RdI, WrI, DvI, jmaxI, jminI, jabsI, bI0, Zb0, Zb1, ZbI, ↓reduceIte, not_true_eq_false, not_false_eq_true, ite_not, and_true, true_and, and_false, false_and, and_self, fX0_refundPayment, fX0_refundPayment_j47, hc0, em2]
        obtain ⟨V'', f1, f2⟩ := ih fu l A V hX hP hW hI (by omega) (by omega)
        rw [show min (m + 1) (len (A.rows i)).toNat = min m (len (A.rows i)).toNat by omega]
        refine ⟨V'', ?_, f2⟩
        rw [← f1]
        clear ih hI hv f1 f2 hpa
        rw [fX0_refund_l47_s]
        simp (disch := omega) only [nmD, bdS, b2S, lit32, iA, iS, iM, iN, iLt, iLe, iE, zlT, zlF, zleT, zleF, zeT, zeF, RdI, WrI, DvI, jmaxI, jminI, jabsI, bI0, Zb0, Zb1, ZbI, ↓reduceIte, not_true_eq_false, not_false_eq_true, ite_not, and_true, true_and, and_false, false_and, and_self, j3, e1, Int.sub_zero]
        rfl
end RX2
section RM2
variable {A : Ab} {K : Int}
end RM2
