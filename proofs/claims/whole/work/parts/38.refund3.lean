/-! A whole refund. -/
theorem rf_setB (i a c v : Int) : ∀ (k : Nat) (l : Int) (A : Ab), rf i k l (A.setB a c v) = ((rf i k l A).1.setB a c v, (rf i k l A).2)
  | 0, _, _ => rfl
  | k + 1, l, A => by
    rw [rf_s, rf_s]
    exact rf_setB i a c v k _ (stp A i k l)
section RM3
variable {A : Ab} {K : Int} {R : (Nat → Int32) × (Nat → Int32) × Int32 × (Nat → Int32) × Int32 × Int32 × Int32 × Int64 × (Nat → Int32)}
set_option maxHeartbeats 4000000 in
theorem mRf2 {i C z : Int} (hC : C ≤ 500 + 2000 * K) : ∀ (m fu : Nat) (l : Int) (A : Ab) (s : Nat → Int32), RepM s A → WF K (A.setB i 3 z) → RI C (A.setB i 3 z) i l → (m : Int) ≤ len (A.rows i) → m < fu → ∃ s' : Nat → Int32, fX9_refunds_l56 (iI i) fu (s, R) (iI l) (iI ((m : Int) - 1)) = some (s', R) ∧ RepM s' (rf i m l A).1 ∧ ∀ j : Nat, 517 ≤ j → s' j = s j := by
  intro m
  induction m with
  | zero =>
    intro fu l A s hM hW hI h1 h2
    obtain ⟨fu, rfl⟩ : ∃ q, fu = q + 1 := ⟨fu - 1, by omega⟩
    refine ⟨s, ?_, hM, fun _ _ => rfl⟩
    clear hI
    rw [fX9_refunds_l56_s]
    simp (disch := omega) only [nmD, bdS, b2S, lit32, iA, iS, iM, iN, iLt, iLe, iE, zlT, zlF, zleT, zleF, zeT, zeF, RdI, WrI, DvI, jmaxI, jminI, jabsI, bI0, Zb0, Zb1, ZbI, ↓reduceIte, not_true_eq_false, not_false_eq_true, ite_not, and_true, true_and, and_false, false_and, and_self]
  | succ m ih =>
    intro fu l A s hM hW hI h1 h2
    obtain ⟨fu, rfl⟩ : ∃ q, fu = q + 1 := ⟨fu - 1, by omega⟩
    obtain ⟨l0, l1, ⟨i0, i1, i2⟩, hv⟩ := id hI
    have i1 : i < A.nB := i1
    have hn : 0 ≤ A.nR ∧ A.nR ≤ 4 ∧ 0 ≤ A.nB ∧ A.nB ≤ 16 ∧ 0 ≤ A.nV ∧ A.nV ≤ 8 ∧ 0 ≤ K ∧ K ≤ 80000 := hW.n
    have hln : 0 ≤ len (A.rows i) ∧ len (A.rows i) ≤ 16 := hW.ln i0 i1
    have hmk : (m : Int) < len (A.rows i) := by omega
    have hpp : (0 ≤ at' (A.rows i) m ∧ at' (A.rows i) m < A.nB) ∧ (0 ≤ A.F (at' (A.rows i) m) ∧ A.F (at' (A.rows i) m) < A.nV) ∧ (0 ≤ A.U (at' (A.rows i) m) ∧ A.U (at' (A.rows i) m) ≤ 1600) := nodup_at hW i0 i1 (k := m) (by omega) hmk
    obtain ⟨p1, p2, p3⟩ := hpp
    obtain ⟨w1, w2⟩ := WF.st hW hI (k := m) hmk hC
    have w1 : WF K ((stp A i m l).setB i 3 z) := w1
    have w2 : RI C ((stp A i m l).setB i 3 z) i (l - min l (A.U (at' (A.rows i) m))) := w2
    have hl : A.nB ≤ 16 ∧ ∀ i : Int, 0 ≤ i → i < A.nB → len (A.rows i) ≤ 16 := hW.l16
    generalize hp : at' (A.rows i) m = p at p1 p2 p3
    have hs1 := RepM.setU hM hl.1 hl.2 (p := p) (v := A.U p - min l (A.U p)) p1.1 (by omega)
    have hs2 := RepM.setV hs1 hl.1 hl.2 (i := A.F p) (c := 1) (v := A.V (A.F p) 1 + min l (A.U p)) p2.1 (by omega) (by omega) (by omega)
    have est : stp A i m l = (A.setU p (A.U p - min l (A.U p))).setV (A.F p) 1 (A.V (A.F p) 1 + min l (A.U p)) := by unfold stp; rw [hp]
    rw [← est] at hs2
    rw [hp] at w2
    obtain ⟨s', f1, f2, f3⟩ := ih fu (l - min l (A.U p)) (stp A i m l) _ hs2 w1 w2 (by show (m : Int) ≤ len (A.rows i); omega) (by omega)
    refine ⟨s', ?_, by rw [rf_s, hp]; exact f2, fun j hj => by rw [f3 j hj, ud_n (by omega), ud_n (by omega)]⟩
    rw [← f1]
    have hMt : RepM (s, R).1 A := hM
    have hMt1 : RepM ((upd s (485 + p).toNat (iI (A.U p - min l (A.U p))), R) : Md).1 (A.setU p (A.U p - min l (A.U p))) := hs1
    have g1 : ((upd s (485 + p).toNat (iI (A.U p - min l (A.U p))), R) : Md).1 (469 + p).toNat = iI (A.F p) := hMt1.F p1.1 (by omega)
    have g2 : ((upd s (485 + p).toNat (iI (A.U p - min l (A.U p))), R) : Md).1 (501 + 2 * A.F p + 1).toNat = iI (A.V (A.F p) 1) := hMt1.V p2.1 (by omega) (by omega) (by omega)
    have g0 : s (213 + 16 * i + m).toNat = iI p := by
      have := hMt.O i0 i1 (k := m) (by omega) (by omega)
      rw [hp] at this
      exact this
    have g3 : s (485 + p).toNat = iI (A.U p) := hMt.U p1.1 (by omega)
    have g1 : upd s (485 + p).toNat (iI (A.U p - min l (A.U p))) (469 + p).toNat = iI (A.F p) := g1
    have g2 : upd s (485 + p).toNat (iI (A.U p - min l (A.U p))) (501 + 2 * A.F p + 1).toNat = iI (A.V (A.F p) 1) := g2
    clear ih hI hv w1 w2 f1 f2 f3 hs1 hs2 hM hMt hMt1 hl hW
    have em : ((m + 1 : Nat) : Int) - 1 = m := by omega
    rw [em, fX9_refunds_l56_s]
    simp (disch := omega) only [nmD, bdS, b2S, lit32, iA, iS, iM, iN, iLt, iLe, iE, zlT, zlF, zleT, zleF, zeT, zeF, RdI, WrI, DvI, jmaxI, jminI, jabsI, bI0, Zb0, Zb1, ZbI, ↓reduceIte, not_true_eq_false, not_false_eq_true, ite_not, and_true, true_and, and_false, false_and, and_self, g0, g3, mLess, g1, g2]
    rfl
end RM3
section WFS2
variable {A : Ab} {K : Int}
theorem WF.setT (h : WF K A) (v : Int) : WF K (A.setT v) := h
/-- columns 6 and on of a booking are free -/
theorem WF.setB6 (h : WF K A) {i c v : Int} (hc : 6 ≤ c) : WF K (A.setB i c v) := by
  obtain ⟨w1, w2, w3, w4, w5, w6, w7, w8⟩ := h
  have e : ∀ j k : Int, k < 6 → (A.setB i c v).B j k = A.B j k := fun j k hk => up2_n _ _ (by omega)
  refine ⟨w1, w2, w3, fun j j0 j1 => ?_, w5, fun j j0 j1 => ?_, w7, fun j k j0 j1 k0 k1 hne => ?_⟩
  · rw [e j 0 (by omega), e j 1 (by omega), e j 2 (by omega), e j 3 (by omega), e j 4 (by omega), e j 5 (by omega)]
    exact w4 j j0 j1
  · rw [e j 3 (by omega)]
    exact w6 j j0 j1
  · rw [e j 0 (by omega), e k 0 (by omega), e j 3 (by omega), e k 3 (by omega), e j 1 (by omega), e k 1 (by omega)]
    exact w8 j k j0 j1 k0 k1 hne
/-- the cash of a booking that isn't booked -/
theorem WF.setB5 (h : WF K A) {i v : Int} (hi : A.B i 3 ≠ 0) (h1 : 0 ≤ v) (h2 : v ≤ 1600) : WF K (A.setB i 5 v) := by
  obtain ⟨w1, w2, w3, w4, w5, w6, w7, w8⟩ := h
  have e : ∀ j k : Int, k < 5 → (A.setB i 5 v).B j k = A.B j k := fun j k hk => up2_n _ _ (by omega)
  refine ⟨w1, w2, w3, fun j j0 j1 => ?_, w5, fun j j0 j1 => ?_, w7, fun j k j0 j1 k0 k1 hne => ?_⟩
  · rw [e j 0 (by omega), e j 1 (by omega), e j 2 (by omega), e j 3 (by omega), e j 4 (by omega)]
    obtain ⟨b0, b1, b2, b3, b4, b5, b6⟩ := w4 j j0 j1
    by_cases q : j = i
    · subst q
      rw [show (A.setB j 5 v).B j 5 = v from up2_s _ _ _ _]
      exact ⟨b0, b1, b2, b3, b4, ⟨h1, h2⟩, fun z => absurd z hi⟩
    · rw [show (A.setB i 5 v).B j 5 = A.B j 5 from up2_n _ _ (by omega)]
      exact ⟨b0, b1, b2, b3, b4, b5, b6⟩
  · rw [e j 3 (by omega)]
    exact w6 j j0 j1
  · rw [e j 0 (by omega), e k 0 (by omega), e j 3 (by omega), e k 3 (by omega), e j 1 (by omega), e k 1 (by omega)]
    exact w8 j k j0 j1 k0 k1 hne
/-- a booking that is booked becomes another state -/
theorem WF.setB3 (h : WF K A) {i v : Int} (h0 : 0 ≤ i) (h00 : i < A.nB) (hi : A.B i 3 = 0) (h1 : 1 ≤ v) (h2 : v ≤ 3) : WF K (A.setB i 3 v) := by
  obtain ⟨w1, w2, w3, w4, w5, w6, w7, w8⟩ := h
  have e : ∀ j k : Int, k ≠ 3 → (A.setB i 3 v).B j k = A.B j k := fun j k hk => up2_n _ _ (by omega)
  have es : (A.setB i 3 v).B i 3 = v := up2_s _ _ _ _
  have en : ∀ j : Int, j ≠ i → (A.setB i 3 v).B j 3 = A.B j 3 := fun j hj => up2_n _ _ (by omega)
  have e3 : ∀ j : Int, (A.setB i 3 v).B j 3 = 0 → j ≠ i ∧ A.B j 3 = 0 := fun j hj => by
    by_cases q : j = i
    · subst q; rw [es] at hj; omega
    · rw [en j q] at hj; exact ⟨q, hj⟩
  have e4 : ∀ j : Int, (A.setB i 3 v).B j 3 < 2 → A.B j 3 < 2 := fun j hj => by
    by_cases q : j = i
    · subst q; omega
    · rw [en j q] at hj; exact hj
  refine ⟨w1, w2, w3, fun j j0 j1 => ?_, w5, fun j j0 j1 => ?_, w7, fun j k j0 j1 k0 k1 hne q1 q2 q3 => ?_⟩
  · rw [e j 0 (by omega), e j 1 (by omega), e j 2 (by omega), e j 4 (by omega), e j 5 (by omega)]
    obtain ⟨b0, b1, b2, b3, b4, b5, b6⟩ := w4 j j0 j1
    refine ⟨b0, b1, b2, ?_, b4, b5, fun z => b6 (e3 j z).2⟩
    by_cases q : j = i
    · subst q; rw [es]; omega
    · rw [en j q]; exact b3
  · obtain ⟨a1, a2⟩ := w6 j j0 j1
    refine ⟨a1, fun p hp => ?_⟩
    obtain ⟨q1, q2, q3, q4⟩ := a2 p hp
    exact ⟨q1, q2, q3, fun z => q4 (e3 j z).2⟩
  · rw [e j 0 (by omega)] at q1
    rw [e k 0 (by omega)] at q1
    rw [e j 0 (by omega), e j 1 (by omega), e k 1 (by omega)]
    exact w8 j k j0 j1 k0 k1 hne q1 (e4 j q2) (e4 k q3)
end WFS2
def rfA (A : Ab) (i a : Int) : Ab := (rf i (len (A.rows i)).toNat (a - min a (A.B i 5)) ((A.setB i 5 (A.B i 5 - min a (A.B i 5))).setT (A.t - min a (A.B i 5)))).1.setB i 6 (A.B i 6 + a)
