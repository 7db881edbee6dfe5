/-! One step of the law: moves, cancels, merges. -/
section AC2
variable {N : XLm} {A : Ab} {K G : Int}
theorem aMoveN (h : InvX K N.1 A) (hL : RepL N.2 A G) (hG : 0 ≤ G ∧ G ≤ 8 * K) (hm : Sma A) (hM : MI A) (hK : K + 2 ≤ 400) {k t : Int} (hk : 0 ≤ k ∧ k < A.nB) (ht : 0 ≤ t ∧ t ≤ 720) (hno : A.B k 3 = 0 → ¬ Poss A (A.B k 0) t k) : Go K (fL_acts_j1064 N (iI k) (iI t)) := by
  have hn := h.W.n
  obtain ⟨M1, e1, h1⟩ := actNo (K' := K + 2) h (cx := fun V => fX0_changeTime V (iI k) (iI t)) (cMoveN h.X h.W hk ht hno) (by omega) (by omega) (by omega) (by omega)
  have e1 : fX8_move N.1 (iI k) (iI t) = some (iI (-2), M1) := e1
  refine ⟨(M1, N.2), ?_, A, G, h1, hL, by omega, hm, hM⟩
  clear h1 h hL hM hm hno
  simp (disch := omega) only [MoI, nmD, bdS, b2S, lit32, iA, iS, iM, iN, iLt, iLe, iE, zlT, zlF, zleT, zleF, zeT, zeF, RdI, WrI, DvI, jmaxI, jminI, jabsI, bI0, Zb0, Zb1, ZbI, ↓reduceIte, not_true_eq_false, not_false_eq_true, ite_not, and_true, true_and, and_false, false_and, and_self, fL_acts_j1064, e1]
theorem aMoveY (h : InvX K N.1 A) (hL : RepL N.2 A G) (hG : 0 ≤ G ∧ G ≤ 8 * K) (hm : Sma A) (hM : MI A) (hK : K + 2 ≤ 400) {k t : Int} (hk : 0 ≤ k ∧ k < A.nB) (ht : 0 ≤ t ∧ t ≤ 720) (h3 : A.B k 3 = 0) (h4 : Poss A (A.B k 0) t k) : Go K (fL_acts_j1083 N (iI k) (iI t)) := by
  have hn := h.W.n
  have hb := h.W.b hk.1 hk.2
  obtain ⟨V', v1, v2⟩ := cMove h.X h.W hk ht h3 h4
  have hWf := (h.W.mono (K' := K + 2) (by omega) (by omega)).setB1 hk.1 hk.2 h3 ht.1 ht.2 h4
  obtain ⟨M', e1, e2⟩ := actOk h (cx := fun V => fX0_changeTime V (iI k) (iI t)) v1 (by omega) (by omega) v2 hWf
  have e1 : fX8_move N.1 (iI k) (iI t) = some (iI (A.B k 1), M') := e1
  obtain ⟨m1, m2, m3⟩ := hm
  obtain ⟨hk1, hk2⟩ := hk
  have b1 := hL.B (i := k) (c := 1) hk1 hk2 (by omega) (by omega)
  have hR := RepL.setB hL (i := k) (c := 1) (v := t) hk1 (by omega) (by omega)
  refine ⟨(M', _), ?_, _, G, e2, hR, by omega, ⟨m1, m2, m3⟩, mi_setB hM (by omega)⟩
  clear hR e2 v1 v2 hWf hL h hM h4
  simp (disch := omega) only [MoI, nmD, bdS, b2S, lit32, iA, iS, iM, iN, iLt, iLe, iE, zlT, zlF, zleT, zleF, zeT, zeF, RdI, WrI, DvI, jmaxI, jminI, jabsI, bI0, Zb0, Zb1, ZbI, ↓reduceIte, not_true_eq_false, not_false_eq_true, ite_not, and_true, true_and, and_false, false_and, and_self, fL_acts_j1083, b1, e1]
theorem aMove (h : InvX K N.1 A) (hL : RepL N.2 A G) (hG : 0 ≤ G ∧ G ≤ 8 * K) (hm : Sma A) (hM : MI A) (hK : K + 2 ≤ 400) {x k : Int} (hx : 0 ≤ x ∧ x < 10000000) (hk : 0 ≤ k ∧ k < A.nB) : Go K (fL_acts_j1032 N (iI x) (iI (A.B k 0)) (iI k) (iI (if A.B k 3 = 0 then 1 else 0))) := by
  have hn := h.W.n
  have hb := h.W.b hk.1 hk.2
  have m2 := hm.2.1
  have d1 := md_b (x / 21) (b := 721) (by omega)
  have hN := aMoveN h hL hG hm hM hK (k := k) (t := x / 21 % 721) hk (by omega)
  have hY := aMoveY h hL hG hm hM hK (k := k) (t := x / 21 % 721) hk (by omega)
  have hmay := lMay hL h.W hm (room := A.B k 0) (time := x / 21 % 721) (but := k) hb.1 (by omega) (by omega)
  obtain ⟨hx1, hx2⟩ := hx
  obtain ⟨hk1, hk2⟩ := hk
  by_cases c : A.B k 3 = 0
  · rw [if_pos c]
    by_cases c2 : Poss A (A.B k 0) (x / 21 % 721) k
    · have e := hmay.1 c2
      have q := hY c c2
      have e2 : fL_acts_j1032 N (iI x) (iI (A.B k 0)) (iI k) (iI 1) = fL_acts_j1083 N (iI k) (iI (x / 21 % 721)) := by
        clear hN hY hmay q h hL hM hm c2
        simp (disch := omega) only [MoI, nmD, bdS, b2S, lit32, iA, iS, iM, iN, iLt, iLe, iE, zlT, zlF, zleT, zleF, zeT, zeF, RdI, WrI, DvI, jmaxI, jminI, jabsI, bI0, Zb0, Zb1, ZbI, ↓reduceIte, not_true_eq_false, not_false_eq_true, ite_not, and_true, true_and, and_false, false_and, and_self, fL_acts_j1032, e]
      rw [e2]
      exact q
    · have e := hmay.2 c2
      have q := hN (fun _ => c2)
      have e2 : fL_acts_j1032 N (iI x) (iI (A.B k 0)) (iI k) (iI 1) = fL_acts_j1064 N (iI k) (iI (x / 21 % 721)) := by
        clear hN hY hmay q h hL hM hm c2
        simp (disch := omega) only [MoI, nmD, bdS, b2S, lit32, iA, iS, iM, iN, iLt, iLe, iE, zlT, zlF, zleT, zleF, zeT, zeF, RdI, WrI, DvI, jmaxI, jminI, jabsI, bI0, Zb0, Zb1, ZbI, ↓reduceIte, not_true_eq_false, not_false_eq_true, ite_not, and_true, true_and, and_false, false_and, and_self, fL_acts_j1032, e]
      rw [e2]
      exact q
  · rw [if_neg c]
    have q := hN (fun z => absurd z c)
    have e2 : fL_acts_j1032 N (iI x) (iI (A.B k 0)) (iI k) (iI 0) = fL_acts_j1064 N (iI k) (iI (x / 21 % 721)) := by
      clear hN hY hmay q h hL hM hm
      simp (disch := omega) only [MoI, nmD, bdS, b2S, lit32, iA, iS, iM, iN, iLt, iLe, iE, zlT, zlF, zleT, zleF, zeT, zeF, RdI, WrI, DvI, jmaxI, jminI, jabsI, bI0, Zb0, Zb1, ZbI, ↓reduceIte, not_true_eq_false, not_false_eq_true, ite_not, and_true, true_and, and_false, false_and, and_self, fL_acts_j1032]
    rw [e2]
    exact q
set_option maxHeartbeats 2000000 in
theorem aCancel (h : InvX K N.1 A) (hL : RepL N.2 A G) (hG : 0 ≤ G ∧ G ≤ 8 * K) (hm : Sma A) (hM : MI A) (hK : K + 2 ≤ 400) {k : Int} (hk : 0 ≤ k ∧ k < A.nB) : Go K (fL_acts_j1133 N (iI k) (iI (if A.B k 3 = 0 then 1 else 0))) := by
  have hn := h.W.n
  have hs := h.W.s
  have hb := h.W.b hk.1 hk.2
  by_cases c : A.B k 3 = 0
  · rw [if_pos c]
    have hg := good_self (A := A) hk.1 hk.2 c
    have hsb := stt_b h.W hg (later := 0) (by omega) (by omega)
    have hsum := (h.W.2.2.2.1 k hk.1 hk.2).2.2.2.2.2.2 c
    have hrp := (rsum_pos h.W hk.1 hk.2).1
    obtain ⟨V', v1, v2, v3, v4, v5⟩ := cDrop h.X h.W (by omega) hk c
    obtain ⟨M', e1, e2⟩ := actOk h (cx := fun V => fX0_callOff V (iI k)) v1 v4 (by omega) v2 (v3.mono (K' := K + 2) (by omega) (by omega))
    have e1 : fX8_cancel N.1 (iI k) = some (iI (dra A k), M') := e1
    have hle : dra A k ≤ A.B k 5 + rsum A k := by unfold dra; split <;> omega
    have hW2 := h.W.setB3 (i := k) (v := 2) hk.1 hk.2 c (by omega) (by omega)
    obtain ⟨L', f1, f2⟩ := lRefund hL hm hG.1 (by omega) (z := 2) (by omega) hW2 (by omega) hk.1 hk.2 v4 v5 hle
    have hR := RepL.setB f2 (i := k) (c := 3) (v := 2) hk.1 (by omega) (by omega)
    rw [← rfA_setB3] at hR
    have z5 : (A.setB k 3 2).B k 5 = A.B k 5 := up2_n _ _ (by omega)
    have z3 : (A.setB k 3 2).B k 3 = 2 := up2_s _ _ _ _
    have hM2 := mi_rfA (A := A.setB k 3 2) (mi_setB hM (by omega)) hW2 (by omega) (i := k) (a := dra A k) hk.1 hk.2 (by rw [z3]; omega) v4 v5 (by rw [z5]; exact hle)
    have hpd := lPaid hL h.W hm hk.1 hk.2
    have hlt := lLate hL h.W hm hg
    have es := hL.e (k := 3) (by omega) (by omega)
    have hkeep := rf_keep k (len (A.rows k)).toNat (dra A k - min (dra A k) ((A.setB k 3 2).B k 5)) (((A.setB k 3 2).setB k 5 ((A.setB k 3 2).B k 5 - min (dra A k) ((A.setB k 3 2).B k 5))).setT (A.t - min (dra A k) ((A.setB k 3 2).B k 5)))
    have hsm : Sma (rfA (A.setB k 3 2) k (dra A k)) := by
      have q1 : (rfA (A.setB k 3 2) k (dra A k)).nB = A.nB := hkeep.2.1
      have q2 : (rfA (A.setB k 3 2) k (dra A k)).nV = A.nV := hkeep.2.2.2
      have q3 : (rfA (A.setB k 3 2) k (dra A k)).nR = A.nR := by
        have key : ∀ (n : Nat) (l : Int) (B : Ab), (rf k n l B).1.nR = B.nR := by
          intro n
          induction n with
          | zero => intro l B; rfl
          | succ n ih => intro l B; rw [rf_s]; exact ih _ (stp B k n l)
        exact key _ _ _
      unfold Sma
      rw [q1, q2, q3]
      exact hm
    refine ⟨(M', _), ?_, _, G, e2, hR, by omega, hsm, hM2⟩
    obtain ⟨m1, m2, m3⟩ := hm
    obtain ⟨hk1, hk2⟩ := hk
    have fin : fL_acts_j1192 N (iI k) (iI (dra A k)) = some (iI 1, (M', L'.1, L'.2.1, L'.2.2.1, upd L'.2.2.2.1 (9 * k + 3).toNat (iI 2), L'.2.2.2.2)) := by
      clear hR e2 v1 v2 v3 hW2 hL h hM hM2 hsm hkeep hpd hlt hg f2
      simp (disch := omega) only [MoI, nmD, bdS, b2S, lit32, iA, iS, iM, iN, iLt, iLe, iE, zlT, zlF, zleT, zleF, zeT, zeF, RdI, WrI, DvI, jmaxI, jminI, jabsI, bI0, Zb0, Zb1, ZbI, ↓reduceIte, not_true_eq_false, not_false_eq_true, ite_not, and_true, true_and, and_false, false_and, and_self, fL_acts_j1192, f1, e1]
    rw [← fin]
    clear fin hR e2 v1 v2 v3 hW2 hL h hM hM2 hsm hkeep hg f2 f1 e1
    unfold dra
    by_cases c2 : stt A k 0 - A.B k 1 ≤ A.S 3
    · rw [if_pos c2]
      simp (disch := omega) only [MoI, nmD, bdS, b2S, lit32, iA, iS, iM, iN, iLt, iLe, iE, zlT, zlF, zleT, zleF, zeT, zeF, RdI, WrI, DvI, jmaxI, jminI, jabsI, bI0, Zb0, Zb1, ZbI, ↓reduceIte, not_true_eq_false, not_false_eq_true, ite_not, and_true, true_and, and_false, false_and, and_self, fL_acts_j1133, fL_acts_j1155, hpd, hlt, es]
    · rw [if_neg c2]
      simp (disch := omega) only [MoI, nmD, bdS, b2S, lit32, iA, iS, iM, iN, iLt, iLe, iE, zlT, zlF, zleT, zleF, zeT, zeF, RdI, WrI, DvI, jmaxI, jminI, jabsI, bI0, Zb0, Zb1, ZbI, ↓reduceIte, not_true_eq_false, not_false_eq_true, ite_not, and_true, true_and, and_false, false_and, and_self, fL_acts_j1133, fL_acts_j1155, hpd, hlt, es]
  · rw [if_neg c]
    obtain ⟨M1, e1, h1⟩ := actNo (K' := K + 2) h (cx := fun V => fX0_callOff V (iI k)) (cDropN h.X h.W hk c) (by omega) (by omega) (by omega) (by omega)
    have e1 : fX8_cancel N.1 (iI k) = some (iI (-2), M1) := e1
    refine ⟨(M1, N.2), ?_, A, G, h1, hL, by omega, hm, hM⟩
    clear h1 h hL hM hm
    simp (disch := omega) only [MoI, nmD, bdS, b2S, lit32, iA, iS, iM, iN, iLt, iLe, iE, zlT, zlF, zleT, zleF, zeT, zeF, RdI, WrI, DvI, jmaxI, jminI, jabsI, bI0, Zb0, Zb1, ZbI, ↓reduceIte, not_true_eq_false, not_false_eq_true, ite_not, and_true, true_and, and_false, false_and, and_self, fL_acts_j1133, e1]
/-- a merge that is refused -/
theorem aMergeN (h : InvX K N.1 A) (hL : RepL N.2 A G) (hG : 0 ≤ G ∧ G ≤ 8 * K) (hm : Sma A) (hM : MI A) (hK : K + 2 ≤ 400) {k j : Int} (hk : 0 ≤ k ∧ k < A.nB) (hj : 0 ≤ j ∧ j < A.nB) (hkj : k < j ∨ j < k) (hno : A.B k 3 = 0 → A.B j 3 = 0 → A.B k 0 = A.B j 0 → False) : Go K (fL_acts_j1310 N (iI k) (iI j)) := by
  have hn := h.W.n
  obtain ⟨M1, e1, h1⟩ := actNo (K' := K + 2) h (cx := fun V => fX0_joinTeams V (iI k) (iI j)) (cJoinN h.X h.W hk hj hkj hno) (by omega) (by omega) (by omega) (by omega)
  have e1 : fX8_merge N.1 (iI k) (iI j) = some (iI (-2), M1) := e1
  refine ⟨(M1, N.2), ?_, A, G, h1, hL, by omega, hm, hM⟩
  clear h1 h hL hM hm hno
  simp (disch := omega) only [MoI, nmD, bdS, b2S, lit32, iA, iS, iM, iN, iLt, iLe, iE, zlT, zlF, zleT, zleF, zeT, zeF, RdI, WrI, DvI, jmaxI, jminI, jabsI, bI0, Zb0, Zb1, ZbI, ↓reduceIte, not_true_eq_false, not_false_eq_true, ite_not, and_true, true_and, and_false, false_and, and_self, fL_acts_j1310, e1]
theorem pos_ex (l : List Int) : ∃ pos : Int → Int, ∀ p : Int, p ∈ l → 0 ≤ pos p ∧ pos p < len l ∧ at' l (pos p) = p := by
  have h : ∀ p : Int, ∃ k : Int, p ∈ l → 0 ≤ k ∧ k < len l ∧ at' l k = p := fun p => by
    by_cases hp : p ∈ l
    · obtain ⟨k, hk⟩ := at_of hp
      exact ⟨k, fun _ => hk⟩
    · exact ⟨0, fun q => absurd q hp⟩
  exact ⟨fun p => Classical.choose (h p), fun p => Classical.choose_spec (h p)⟩
set_option maxHeartbeats 4000000 in
theorem aMergeY (h : InvX K N.1 A) (hL : RepL N.2 A G) (hG : 0 ≤ G ∧ G ≤ 8 * K) (hm : Sma A) (hM : MI A) (hK : K + 2 ≤ 400) {k j : Int} (hk : 0 ≤ k ∧ k < A.nB) (hj : 0 ≤ j ∧ j < A.nB) (hkj : k < j ∨ j < k) (s1 : A.B k 3 = 0) (s2 : A.B j 3 = 0) (he : A.B k 0 = A.B j 0) (hp : A.B k 2 + A.B j 2 ≤ A.R (A.B j 0) 3) : Go K (fL_acts_j1381 N (iI k) (iI j)) := by
  have hn := h.W.n
  have hbk := h.W.b hk.1 hk.2
  have hbj := h.W.b hj.1 hj.2
  have hln := h.W.ln hk.1 hk.2
  obtain ⟨V', v1, v2⟩ := xJoin h.X h.W hk hj hkj s1 s2 he hp
  have hWf := (h.W.mono (K' := K + 2) (by omega) (by omega)).jnw hk hj hkj s1 s2 he hp
  obtain ⟨M', e1, e2⟩ := actOk h (cx := fun V => fX0_joinTeams V (iI k) (iI j)) v1 (by omega) (by omega) v2 hWf
  have e1 : fX8_merge N.1 (iI k) (iI j) = some (iI (A.B k 2 + A.B j 2), M') := e1
  have t1 := RepL.setB hL (i := j) (c := 2) (v := A.B j 2 + A.B k 2) hj.1 (by omega) (by omega)
  have t2 := RepL.setB t1 (i := j) (c := 4) (v := A.B j 4 + A.B k 4) hj.1 (by omega) (by omega)
  have t3 := RepL.setB t2 (i := j) (c := 5) (v := A.B j 5 + A.B k 5) hj.1 (by omega) (by omega)
  have t4 := RepL.setB t3 (i := k) (c := 2) (v := 0) hk.1 (by omega) (by omega)
  have t5 := RepL.setB t4 (i := k) (c := 4) (v := 0) hk.1 (by omega) (by omega)
  have t6 := RepL.setB t5 (i := k) (c := 5) (v := 0) hk.1 (by omega) (by omega)
  have t7 := RepL.setB t6 (i := k) (c := 3) (v := 3) hk.1 (by omega) (by omega)
  have eA : (((((((A.setB j 2 (A.B j 2 + A.B k 2)).setB j 4 (A.B j 4 + A.B k 4)).setB j 5 (A.B j 5 + A.B k 5)).setB k 2 0).setB k 4 0).setB k 5 0).setB k 3 3) = mkA A.R (up2 (jB A k j) k 3 3) A.V A.S A.rows A.F A.U A.nR A.nB A.nV A.t := by
    show mkA A.R (up2 (up2 (up2 (up2 (up2 (up2 (up2 A.B j 2 (A.B j 2 + A.B k 2)) j 4 (A.B j 4 + A.B k 4)) j 5 (A.B j 5 + A.B k 5)) k 2 0) k 4 0) k 5 0) k 3 3) A.V A.S A.rows A.F A.U A.nR A.nB A.nV A.t = _
    rw [jB_alt A hkj]
  rw [eA] at t7
  obtain ⟨ow, st, hQ⟩ := hL.2.2.2.2.2
  obtain ⟨pos, hpos⟩ := pos_ex (A.rows k)
  have w1 := hL.B (i := j) (c := 2) hj.1 hj.2 (by omega) (by omega)
  have w2 := hL.B (i := k) (c := 2) hk.1 hk.2 (by omega) (by omega)
  have w3 : upd N.2.2.2.2.1 (9 * j + 2).toNat (iI (A.B j 2 + A.B k 2)) (9 * j + 4).toNat = iI (A.B j 4) := (ud_n (by omega)).trans (hL.B (i := j) (c := 4) hj.1 hj.2 (by omega) (by omega))
  have w4 : upd N.2.2.2.2.1 (9 * j + 2).toNat (iI (A.B j 2 + A.B k 2)) (9 * k + 4).toNat = iI (A.B k 4) := (ud_n (by omega)).trans (hL.B (i := k) (c := 4) hk.1 hk.2 (by omega) (by omega))
  have w5 : upd (upd N.2.2.2.2.1 (9 * j + 2).toNat (iI (A.B j 2 + A.B k 2))) (9 * j + 4).toNat (iI (A.B j 4 + A.B k 4)) (9 * j + 5).toNat = iI (A.B j 5) := (ud_n (by omega)).trans ((ud_n (by omega)).trans (hL.B (i := j) (c := 5) hj.1 hj.2 (by omega) (by omega)))
  have w6 : upd (upd N.2.2.2.2.1 (9 * j + 2).toNat (iI (A.B j 2 + A.B k 2))) (9 * j + 4).toNat (iI (A.B j 4 + A.B k 4)) (9 * k + 5).toNat = iI (A.B k 5) := (ud_n (by omega)).trans ((ud_n (by omega)).trans (hL.B (i := k) (c := 5) hk.1 hk.2 (by omega) (by omega)))
  have g4 := hL.g4
  have g1 := hL.g1
  -- the loops
  have key : ∀ N0 : XLm, RepL N0.2 (mkA A.R (up2 (jB A k j) k 3 3) A.V A.S A.rows A.F A.U A.nR A.nB A.nV A.t) G → RQ N0.2.2.2.2.2.1 A G ow st → N0.1 = N.1 → Go K (fL_acts_l1502 (iI k) (iI j) (iI G) (fun M207 => b2 (fX8_merge (M207.1) (iI k) (iI j)) fun r209 M208 => nm ((M208, M207.2)) fun M210 => Rd (M210.2.2.2.2.1) 63 ((9 * (iI j)) + 2) fun v211 => if r209 = v211 then (Zb 1 (some (1, M210))) else (Zb 0 (some (0, M210)))) FU N0 0) := by
    intro N0 q1 q2 q3
    have z0 : JS N0 N0 A ow st pos k j G 0 := ⟨⟨rfl, rfl, rfl, rfl, rfl⟩, fun _ _ _ => rfl, by rw [Int.add_zero]; exact q1.g4, fun p p0 p1 => by
      obtain ⟨o2, o3, o4, o5, o6⟩ := q2.1 p p0 p1
      have np : ¬ (ow p = k ∧ pos p < 0) := fun z => by
        have hmm := (o6 (by omega)).2.2
        rw [z.1] at hmm
        have := (hpos p hmm).1
        omega
      rw [if_neg np, if_neg np]
      exact ⟨rfl, rfl, o2, o3⟩⟩
    obtain ⟨N', f1, f2⟩ := lJn h.W ⟨hn.2.2.1, hm.2.1⟩ hkj hk hj ⟨hG.1, by omega⟩ q2 hpos q1.g1 (fun M207 => b2 (fX8_merge (M207.1) (iI k) (iI j)) fun r209 M208 => nm ((M208, M207.2)) fun M210 => Rd (M210.2.2.2.2.1) 63 ((9 * (iI j)) + 2) fun v211 => if r209 = v211 then (Zb 1 (some (1, M210))) else (Zb 0 (some (0, M210)))) G.toNat FU 0 0 N0 (by omega) (by omega) (by unfold FU; omega) (by omega) hln.1 (fun a a0 a1 => by
      have hmm := at_mem (l := A.rows k) (k := a) a0 a1
      have hpw := h.W.p hk.1 hk.2 hmm
      have := (q2.1 _ hpw.1.1 hpw.1.2).2.2.2.1
      omega) z0
    have f1 : fL_acts_l1502 (iI k) (iI j) (iI G) _ FU N0 0 = _ := f1
    rw [f1]
    have hR := repL_jn h.W hkj hk hj hG.1 q1 q2 hpos f2
    have hc1 : N'.1 = N.1 := f2.1.1.trans q3
    have bj := hR.B (i := j) (c := 2) hj.1 hj.2 (by omega) (by omega)
    rw [jn_j2 hkj] at bj
    refine ⟨(M', N'.2), ?_, _, _, e2, hR, by omega, hm, mi_jn hM h.W hk hj hkj⟩
    show b2 (fX8_merge (N'.1) (iI k) (iI j)) _ = _
    rw [hc1, e1, b2S]
    obtain ⟨m1, m2, m3⟩ := hm
    obtain ⟨hj1, hj2⟩ := hj
    clear z0 f1 f2 hR q1 q2 e1 e2 v1 v2 hWf t1 t2 t3 t4 t5 t6 t7 hL h hM hQ hpos
    simp (disch := omega) only [MoI, nmD, bdS, b2S, lit32, iA, iS, iM, iN, iLt, iLe, iE, zlT, zlF, zleT, zleF, zeT, zeF, RdI, WrI, DvI, jmaxI, jminI, jabsI, bI0, Zb0, Zb1, ZbI, ↓reduceIte, not_true_eq_false, not_false_eq_true, ite_not, and_true, true_and, and_false, false_and, and_self, bj]
  have fin := key (N.1, (N.2.1, N.2.2.1, N.2.2.2.1, upd (upd (upd (upd (upd (upd (upd N.2.2.2.2.1 (9 * j + 2).toNat (iI (A.B j 2 + A.B k 2))) (9 * j + 4).toNat (iI (A.B j 4 + A.B k 4))) (9 * j + 5).toNat (iI (A.B j 5 + A.B k 5))) (9 * k + 2).toNat (iI 0)) (9 * k + 4).toNat (iI 0)) (9 * k + 5).toNat (iI 0)) (9 * k + 3).toNat (iI 3), N.2.2.2.2.2)) t7 hQ rfl
  have e : fL_acts_j1381 N (iI k) (iI j) = fL_acts_l1502 (iI k) (iI j) (iI G) (fun M207 => b2 (fX8_merge (M207.1) (iI k) (iI j)) fun r209 M208 => nm ((M208, M207.2)) fun M210 => Rd (M210.2.2.2.2.1) 63 ((9 * (iI j)) + 2) fun v211 => if r209 = v211 then (Zb 1 (some (1, M210))) else (Zb 0 (some (0, M210)))) FU (N.1, (N.2.1, N.2.2.1, N.2.2.2.1, upd (upd (upd (upd (upd (upd (upd N.2.2.2.2.1 (9 * j + 2).toNat (iI (A.B j 2 + A.B k 2))) (9 * j + 4).toNat (iI (A.B j 4 + A.B k 4))) (9 * j + 5).toNat (iI (A.B j 5 + A.B k 5))) (9 * k + 2).toNat (iI 0)) (9 * k + 4).toNat (iI 0)) (9 * k + 5).toNat (iI 0)) (9 * k + 3).toNat (iI 3), N.2.2.2.2.2)) 0 := by
    obtain ⟨m1, m2, m3⟩ := hm
    obtain ⟨hj1, hj2⟩ := hj
    obtain ⟨hk1, hk2⟩ := hk
    clear fin key e1 e2 v1 v2 hWf t1 t2 t3 t4 t5 t6 t7 hL h hM hQ hpos eA
    simp (disch := omega) only [MoI, nmD, bdS, b2S, lit32, iA, iS, iM, iN, iLt, iLe, iE, zlT, zlF, zleT, zleF, zeT, zeF, RdI, WrI, DvI, jmaxI, jminI, jabsI, bI0, Zb0, Zb1, ZbI, ↓reduceIte, not_true_eq_false, not_false_eq_true, ite_not, and_true, true_and, and_false, false_and, and_self, fL_acts_j1381, w1, w2, w3, w4, w5, w6, g4]
  rw [e]
  exact fin
theorem aMerge (h : InvX K N.1 A) (hL : RepL N.2 A G) (hG : 0 ≤ G ∧ G ≤ 8 * K) (hm : Sma A) (hM : MI A) (hK : K + 2 ≤ 400) {x k : Int} (hx : 0 ≤ x ∧ x < 10000000) (hk : 0 ≤ k ∧ k < A.nB) : Go K (fL_acts_j1243 N (iI x) (iI (A.B k 0)) (iI k) (iI (if A.B k 3 = 0 then 1 else 0))) := by
  have hn := h.W.n
  have hbk := h.W.b hk.1 hk.2
  have d1 := md_b (x / 21) (b := A.nB) (by omega)
  have g1 := hL.g1
  obtain ⟨m1, m2, m3⟩ := id hm
  obtain ⟨hx1, hx2⟩ := hx
  by_cases c : x / 21 % A.nB = k
  · obtain ⟨M1, e1, h1⟩ := actNo (K' := K + 2) h (cx := fun V => fX0_joinTeams V (iI k) (iI k)) (cJoinS h.X h.W hk) (by omega) (by omega) (by omega) (by omega)
    have e1 : fX8_merge N.1 (iI k) (iI k) = some (iI (-1), M1) := e1
    refine ⟨(M1, N.2), ?_, A, G, h1, hL, by omega, hm, hM⟩
    obtain ⟨hk1, hk2⟩ := hk
    clear h1 h hL hM hm
    simp (disch := omega) only [MoI, nmD, bdS, b2S, lit32, iA, iS, iM, iN, iLt, iLe, iE, zlT, zlF, zleT, zleF, zeT, zeF, RdI, WrI, DvI, jmaxI, jminI, jabsI, bI0, Zb0, Zb1, ZbI, ↓reduceIte, not_true_eq_false, not_false_eq_true, ite_not, and_true, true_and, and_false, false_and, and_self, fL_acts_j1243, g1, c, e1]
  · have e0 : ∀ b : Int, fL_acts_j1243 N (iI x) (iI (A.B k 0)) (iI k) (iI b) = fL_acts_j1279 N (iI (A.B k 0)) (iI k) (iI b) (iI (x / 21 % A.nB)) := fun b => by
      obtain ⟨hk1, hk2⟩ := hk
      clear h hL hM hm
      simp (disch := omega) only [MoI, nmD, bdS, b2S, lit32, iA, iS, iM, iN, iLt, iLe, iE, zlT, zlF, zleT, zleF, zeT, zeF, RdI, WrI, DvI, jmaxI, jminI, jabsI, bI0, Zb0, Zb1, ZbI, ↓reduceIte, not_true_eq_false, not_false_eq_true, ite_not, and_true, true_and, and_false, false_and, and_self, fL_acts_j1243, g1]
    rw [e0]
    clear e0
    generalize x / 21 % A.nB = j at d1 c
    have hkj : k < j ∨ j < k := by omega
    have hbj := h.W.b d1.1 d1.2
    have hN := aMergeN h hL hG hm hM hK hk d1 hkj
    have bj3 := hL.B (i := j) (c := 3) d1.1 d1.2 (by omega) (by omega)
    have bj0 := hL.B0 (i := j) d1.1 d1.2
    by_cases c1 : A.B k 3 = 0
    · rw [if_pos c1]
      by_cases c2 : A.B j 3 = 0
      · by_cases c3 : A.B j 0 = A.B k 0
        · have bj2 := hL.B (i := j) (c := 2) d1.1 d1.2 (by omega) (by omega)
          have bk2 := hL.B (i := k) (c := 2) hk.1 hk.2 (by omega) (by omega)
          have r3 := hL.R (r := A.B k 0) (c := 3) hbk.1.1 hbk.1.2 (by omega) (by omega)
          have hr3 := (h.W.r hbk.1.1 hbk.1.2).2.2.2.1
          by_cases c4 : A.B k 2 + A.B j 2 ≤ A.R (A.B k 0) 3
          · have q := aMergeY h hL hG hm hM hK hk d1 hkj c1 c2 c3.symm (by rw [c3]; exact c4)
            have e : fL_acts_j1279 N (iI (A.B k 0)) (iI k) (iI 1) (iI j) = fL_acts_j1381 N (iI k) (iI j) := by
              obtain ⟨hk1, hk2⟩ := hk
              obtain ⟨d1a, d1b⟩ := d1
              clear q hN h hL hM hm
              simp (disch := omega) only [MoI, nmD, bdS, b2S, lit32, iA, iS, iM, iN, iLt, iLe, iE, zlT, zlF, zleT, zleF, zeT, zeF, RdI, WrI, DvI, jmaxI, jminI, jabsI, bI0, Zb0, Zb1, ZbI, ↓reduceIte, not_true_eq_false, not_false_eq_true, ite_not, and_true, true_and, and_false, false_and, and_self, fL_acts_j1279, fL_acts_j1329, bj3, bj0, c2, c3, bk2, bj2, r3]
            rw [e]
            exact q
          · obtain ⟨M1, e1, h1⟩ := actNo (K' := K + 2) h (cx := fun V => fX0_joinTeams V (iI k) (iI j)) (cJoinF h.X h.W hk d1 hkj c1 c2 c3.symm (by rw [c3]; exact c4)) (by omega) (by omega) (by omega) (by omega)
            have e1 : fX8_merge N.1 (iI k) (iI j) = some (iI (-3), M1) := e1
            refine ⟨(M1, N.2), ?_, A, G, h1, hL, by omega, hm, hM⟩
            obtain ⟨hk1, hk2⟩ := hk
            obtain ⟨d1a, d1b⟩ := d1
            clear hN h1 h hL hM hm
            simp (disch := omega) only [MoI, nmD, bdS, b2S, lit32, iA, iS, iM, iN, iLt, iLe, iE, zlT, zlF, zleT, zleF, zeT, zeF, RdI, WrI, DvI, jmaxI, jminI, jabsI, bI0, Zb0, Zb1, ZbI, ↓reduceIte, not_true_eq_false, not_false_eq_true, ite_not, and_true, true_and, and_false, false_and, and_self, fL_acts_j1279, fL_acts_j1329, bj3, bj0, c2, c3, bk2, bj2, r3, e1]
        · have q := hN (fun _ _ z => c3 z.symm)
          have e : fL_acts_j1279 N (iI (A.B k 0)) (iI k) (iI 1) (iI j) = fL_acts_j1310 N (iI k) (iI j) := by
            obtain ⟨hk1, hk2⟩ := hk
            obtain ⟨d1a, d1b⟩ := d1
            clear q hN h hL hM hm
            simp (disch := omega) only [MoI, nmD, bdS, b2S, lit32, iA, iS, iM, iN, iLt, iLe, iE, zlT, zlF, zleT, zleF, zeT, zeF, RdI, WrI, DvI, jmaxI, jminI, jabsI, bI0, Zb0, Zb1, ZbI, ↓reduceIte, not_true_eq_false, not_false_eq_true, ite_not, and_true, true_and, and_false, false_and, and_self, fL_acts_j1279, bj3, bj0, c2]
          rw [e]
          exact q
      · have q := hN (fun _ z _ => c2 z)
        have e : fL_acts_j1279 N (iI (A.B k 0)) (iI k) (iI 1) (iI j) = fL_acts_j1310 N (iI k) (iI j) := by
          obtain ⟨hk1, hk2⟩ := hk
          obtain ⟨d1a, d1b⟩ := d1
          clear q hN h hL hM hm
          simp (disch := omega) only [MoI, nmD, bdS, b2S, lit32, iA, iS, iM, iN, iLt, iLe, iE, zlT, zlF, zleT, zleF, zeT, zeF, RdI, WrI, DvI, jmaxI, jminI, jabsI, bI0, Zb0, Zb1, ZbI, ↓reduceIte, not_true_eq_false, not_false_eq_true, ite_not, and_true, true_and, and_false, false_and, and_self, fL_acts_j1279, bj3]
        rw [e]
        exact q
    · rw [if_neg c1]
      have q := hN (fun z _ _ => c1 z)
      have e : fL_acts_j1279 N (iI (A.B k 0)) (iI k) (iI 0) (iI j) = fL_acts_j1310 N (iI k) (iI j) := by
        clear q hN h hL hM hm
        simp (disch := omega) only [MoI, nmD, bdS, b2S, lit32, iA, iS, iM, iN, iLt, iLe, iE, zlT, zlF, zleT, zleF, zeT, zeF, RdI, WrI, DvI, jmaxI, jminI, jabsI, bI0, Zb0, Zb1, ZbI, ↓reduceIte, not_true_eq_false, not_false_eq_true, ite_not, and_true, true_and, and_false, false_and, and_self, fL_acts_j1279]
      rw [e]
      exact q
end AC2
