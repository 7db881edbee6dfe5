/-! What keeps WF: numbers of rooms, settings, times. -/
section WS
variable {A : Ab} {K : Int}
theorem setR_comm (A : Ab) {r c v c' v' : Int} (h : c < c' ∨ c' < c) : (A.setR r c v).setR r c' v' = (A.setR r c' v').setR r c v := by
  show mkA (up2 (up2 A.R r c v) r c' v') A.B A.V A.S A.rows A.F A.U A.nR A.nB A.nV A.t = mkA (up2 (up2 A.R r c' v') r c v) A.B A.V A.S A.rows A.F A.U A.nR A.nB A.nV A.t
  rw [up2_comm A.R h]
/-- a count, a time when it is free, a delay of a room -/
theorem WF.setR4 (h : WF K A) {r c v : Int} (hc : 4 ≤ c) (h1 : 0 ≤ v) (h2 : v ≤ 2000 * K) : WF K (A.setR r c v) := by
  obtain ⟨w1, w2, w3, w4, w5, w6, w7, w8⟩ := h
  have e : ∀ j k : Int, k < 4 → (A.setR r c v).R j k = A.R j k := fun j k hk => up2_n _ _ (by omega)
  refine ⟨w1, w2, fun j j0 j1 => ?_, w4, w5, w6, w7, fun i j i0 i1 j0 j1 hne => ?_⟩
  · rw [e j 0 (by omega), e j 1 (by omega), e j 2 (by omega), e j 3 (by omega)]
    obtain ⟨b0, b1, b2, b3, b4⟩ := w3 j j0 j1
    refine ⟨b0, b1, b2, b3, fun k k0 k1 => ?_⟩
    by_cases q : j = r ∧ k = c
    · rw [show (A.setR r c v).R j k = v from if_pos q]
      omega
    · rw [show (A.setR r c v).R j k = A.R j k from if_neg q]
      exact b4 k k0 k1
  · rw [e _ 0 (by omega), e _ 1 (by omega)]
    exact w8 i j i0 i1 j0 j1 hne
/-- a price -/
theorem WF.setR2 (h : WF K A) {r v : Int} (h1 : 1 ≤ v) (h2 : v ≤ 200) : WF K (A.setR r 2 v) := by
  obtain ⟨w1, w2, w3, w4, w5, w6, w7, w8⟩ := h
  have e : ∀ j k : Int, k ≠ 2 → (A.setR r 2 v).R j k = A.R j k := fun j k hk => up2_n _ _ (by omega)
  refine ⟨w1, w2, fun j j0 j1 => ?_, w4, w5, w6, w7, fun i j i0 i1 j0 j1 hne => ?_⟩
  · rw [e j 0 (by omega), e j 1 (by omega), e j 3 (by omega)]
    obtain ⟨b0, b1, b2, b3, b4⟩ := w3 j j0 j1
    refine ⟨b0, b1, ?_, b3, fun k k0 k1 => by rw [e j k (by omega)]; exact b4 k k0 k1⟩
    by_cases q : j = r
    · rw [q, show (A.setR r 2 v).R r 2 = v from up2_s _ _ _ _]
      exact ⟨h1, h2⟩
    · rw [show (A.setR r 2 v).R j 2 = A.R j 2 from up2_n _ _ (by omega)]
      exact b2
  · rw [e _ 0 (by omega), e _ 1 (by omega)]
    exact w8 i j i0 i1 j0 j1 hne
def most (k : Int) : Int := if k = 0 then 10 else if k = 1 then 30 else if k = 2 then 20 else if k = 3 then 60 else 50
theorem WF.setS (h : WF K A) {k v : Int} (h0 : 0 ≤ k) (h4 : k ≤ 4) (h1 : 0 ≤ v) (h2 : v ≤ most k) : WF K (A.setS k v) := by
  obtain ⟨w1, w2, w3, w4, w5, w6, w7, w8⟩ := h
  refine ⟨w1, ?_, w3, w4, w5, w6, w7, w8⟩
  have es : (A.setS k v).S k = v := up1_s _ _ _
  have en : ∀ j : Int, j < k ∨ k < j → (A.setS k v).S j = A.S j := fun j hj => up1_n _ _ hj
  unfold most at h2
  rcases (show k = 0 ∨ k = 1 ∨ k = 2 ∨ k = 3 ∨ k = 4 by omega) with rfl | rfl | rfl | rfl | rfl
  · rw [es, en 1 (by omega), en 2 (by omega), en 3 (by omega), en 4 (by omega)]; rw [if_pos rfl] at h2; omega
  · rw [es, en 0 (by omega), en 2 (by omega), en 3 (by omega), en 4 (by omega)]; rw [if_neg (by omega), if_pos rfl] at h2; omega
  · rw [es, en 0 (by omega), en 1 (by omega), en 3 (by omega), en 4 (by omega)]; rw [if_neg (by omega), if_neg (by omega), if_pos rfl] at h2; omega
  · rw [es, en 0 (by omega), en 1 (by omega), en 2 (by omega), en 4 (by omega)]; rw [if_neg (by omega), if_neg (by omega), if_neg (by omega), if_pos rfl] at h2; omega
  · rw [es, en 0 (by omega), en 1 (by omega), en 2 (by omega), en 3 (by omega)]; rw [if_neg (by omega), if_neg (by omega), if_neg (by omega), if_neg (by omega)] at h2; omega
theorem iabs_sym (x y : Int) : iabs (x - y) = iabs (y - x) := by
  have h1 := iabs_le (x := x - y)
  have h2 := iabs_le (x := y - x)
  omega
/-- a booking that is booked gets a possible time -/
theorem WF.setB1 (h : WF K A) {i v : Int} (h0 : 0 ≤ i) (h00 : i < A.nB) (hi : A.B i 3 = 0) (h1 : 0 ≤ v) (h2 : v ≤ 720) (hp : Poss A (A.B i 0) v i) : WF K (A.setB i 1 v) := by
  obtain ⟨w1, w2, w3, w4, w5, w6, w7, w8⟩ := h
  have e : ∀ j k : Int, k ≠ 1 → (A.setB i 1 v).B j k = A.B j k := fun j k hk => up2_n _ _ (by omega)
  have es : (A.setB i 1 v).B i 1 = v := up2_s _ _ _ _
  have en : ∀ j : Int, j ≠ i → (A.setB i 1 v).B j 1 = A.B j 1 := fun j hj => up2_n _ _ (by omega)
  refine ⟨w1, w2, w3, fun j j0 j1 => ?_, w5, fun j j0 j1 => ?_, w7, fun j k j0 j1 k0 k1 hne q1 q2 q3 => ?_⟩
  · rw [e j 0 (by omega), e j 2 (by omega), e j 3 (by omega), e j 4 (by omega), e j 5 (by omega)]
    obtain ⟨b0, b1, b2⟩ := w4 j j0 j1
    refine ⟨b0, ?_, b2⟩
    by_cases q : j = i
    · subst q; rw [es]; omega
    · rw [en j q]; exact b1
  · rw [e j 3 (by omega)]
    exact w6 j j0 j1
  · rw [e j 0 (by omega), e k 0 (by omega)] at q1
    rw [e j 3 (by omega)] at q2
    rw [e k 3 (by omega)] at q3
    rw [e j 0 (by omega)]
    by_cases z : j = i
    · subst z
      have hk : k ≠ j := fun t => hne t.symm
      rw [es, en k hk, iabs_sym]
      exact (hp k k0 k1 hk q1.symm q3).1
    · by_cases z2 : k = i
      · subst z2
        rw [es, en j hne, q1]
        exact (hp j j0 j1 hne q1 q2).1
      · rw [en j z, en k z2]
        exact w8 j k j0 j1 k0 k1 hne q1 q2 q3
end WS
