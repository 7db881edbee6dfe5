/-! A whole refund. -/
theorem rf_setB (i a c v : Int) : ∀ (k : Nat) (l : Int) (A : Ab), rf i k l (A.setB a c v) = ((rf i k l A).1.setB a c v, (rf i k l A).2)
  | 0, _, _ => rfl
  | k + 1, l, A => by
    rw [rf_s, rf_s]
    exact rf_setB i a c v k _ (stp A i k l)
section RM3
variable {A : Ab} {K : Int}
end RM3
section WFS2
variable {A : Ab} {K : Int}
theorem WF.setT (h : WF K A) (v : Int) : WF K (A.setT v) := h
/-- columns 6 and on of a booking are free -/
theorem WF.setB6 (h : WF K A) {i c v : Int} (hc : 6 ≤ c) : WF K (A.setB i c v) := by
  obtain ⟨w1, w2, w3, w4, w5, w6, w7, w8⟩ := h
  have e : ∀ j k : Int, k < 6 → (A.setB i c v).B j k = A.B j k := fun j k hk => up2_n _ _ (by omega)
  refine ⟨w1, w2, w3, fun j j0 j1 => ?_, w5, fun j j0 j1 => ?_, w7, fun j k j0 j1 k0 k1 hne => ?_⟩
  · rw [e j 0 (by omega), e j 1 (by omega), e j 2 (by omega), e j 3 (by omega), e j 4 (by omega), e j 5 (by omega)]
    exact w4 j j0 j1
  · rw [e j 3 (by omega)]
    exact w6 j j0 j1
  · rw [e j 0 (by omega), e k 0 (by omega), e j 3 (by omega), e k 3 (by omega), e j 1 (by omega), e k 1 (by omega)]
    exact w8 j k j0 j1 k0 k1 hne
/-- the cash of a booking that isn't booked -/
theorem WF.setB5 (h : WF K A) {i v : Int} (hi : A.B i 3 ≠ 0) (h1 : 0 ≤ v) (h2 : v ≤ 1600) : WF K (A.setB i 5 v) := by
  obtain ⟨w1, w2, w3, w4, w5, w6, w7, w8⟩ := h
  have e : ∀ j k : Int, k < 5 → (A.setB i 5 v).B j k = A.B j k := fun j k hk => up2_n _ _ (by omega)
  refine ⟨w1, w2, w3, fun j j0 j1 => ?_, w5, fun j j0 j1 => ?_, w7, fun j k j0 j1 k0 k1 hne => ?_⟩
  · rw [e j 0 (by omega), e j 1 (by omega), e j 2 (by omega), e j 3 (by omega), e j 4 (by omega)]
    obtain ⟨b0, b1, b2, b3, b4, b5, b6⟩ := w4 j j0 j1
    by_cases q : j = i
    · subst q
      rw [show (A.setB j 5 v).B j 5 = v from up2_s _ _ _ _]
      exact ⟨b0, b1, b2, b3, b4, ⟨h1, h2⟩, fun z => absurd z hi⟩
    · rw [show (A.setB i 5 v).B j 5 = A.B j 5 from up2_n _ _ (by omega)]
      exact ⟨b0, b1, b2, b3, b4, b5, b6⟩
  · rw [e j 3 (by omega)]
    exact w6 j j0 j1
  · rw [e j 0 (by omega), e k 0 (by omega), e j 3 (by omega), e k 3 (by omega), e j 1 (by omega), e k 1 (by omega)]
    exact w8 j k j0 j1 k0 k1 hne
/-- a booking that is booked becomes another state -/
theorem WF.setB3 (h : WF K A) {i v : Int} (h0 : 0 ≤ i) (h00 : i < A.nB) (hi : A.B i 3 = 0) (h1 : 1 ≤ v) (h2 : v ≤ 3) : WF K (A.setB i 3 v) := by
  obtain ⟨w1, w2, w3, w4, w5, w6, w7, w8⟩ := h
  have e : ∀ j k : Int, k ≠ 3 → (A.setB i 3 v).B j k = A.B j k := fun j k hk => up2_n _ _ (by omega)
  have es : (A.setB i 3 v).B i 3 = v := up2_s _ _ _ _
  have en : ∀ j : Int, j ≠ i → (A.setB i 3 v).B j 3 = A.B j 3 := fun j hj => up2_n _ _ (by omega)
  have e3 : ∀ j : Int, (A.setB i 3 v).B j 3 = 0 → j ≠ i ∧ A.B j 3 = 0 := fun j hj => by
    by_cases q : j = i
    · subst q; rw [es] at hj; omega
    · rw [en j q] at hj; exact ⟨q, hj⟩
  have e4 : ∀ j : Int, (A.setB i 3 v).B j 3 < 2 → A.B j 3 < 2 := fun j hj => by
    by_cases q : j = i
    · subst q; omega
    · rw [en j q] at hj; exact hj
  refine ⟨w1, w2, w3, fun j j0 j1 => ?_, w5, fun j j0 j1 => ?_, w7, fun j k j0 j1 k0 k1 hne q1 q2 q3 => ?_⟩
  · rw [e j 0 (by omega), e j 1 (by omega), e j 2 (by omega), e j 4 (by omega), e j 5 (by omega)]
    obtain ⟨b0, b1, b2, b3, b4, b5, b6⟩ := w4 j j0 j1
    refine ⟨b0, b1, b2, ?_, b4, b5, fun z => b6 (e3 j z).2⟩
    by_cases q : j = i
    · subst q; rw [es]; omega
    · rw [en j q]; exact b3
  · obtain ⟨a1, a2⟩ := w6 j j0 j1
    refine ⟨a1, fun p hp => ?_⟩
    obtain ⟨q1, q2, q3, q4⟩ := a2 p hp
    exact ⟨q1, q2, q3, fun z => q4 (e3 j z).2⟩
  · rw [e j 0 (by omega)] at q1
    rw [e k 0 (by omega)] at q1
    rw [e j 0 (by omega), e j 1 (by omega), e k 1 (by omega)]
    exact w8 j k j0 j1 k0 k1 hne q1 (e4 j q2) (e4 k q3)
end WFS2
def rfA (A : Ab) (i a : Int) : Ab := (rf i (len (A.rows i)).toNat (a - min a (A.B i 5)) ((A.setB i 5 (A.B i 5 - min a (A.B i 5))).setT (A.t - min a (A.B i 5)))).1.setB i 6 (A.B i 6 + a)
