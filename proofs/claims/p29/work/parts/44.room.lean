/-! A new room. -/
def Ab.setNR (A : Ab) (n : Int) : Ab := mkA A.R A.B A.V A.S A.rows A.F A.U n A.nB A.nV A.t
def zr (A : Ab) : Ab := mkA (fun i k => if i = A.nR then 0 else A.R i k) A.B A.V A.S A.rows A.F A.U A.nR A.nB A.nV A.t
def rm (A : Ab) (a b c d : Int) : Ab := (((((zr A).setR A.nR 0 a).setR A.nR 1 b).setR A.nR 2 c).setR A.nR 3 d).setNR (A.nR + 1)
def rmR (A : Ab) (a b c d : Int) : Int → Int → Int := up2 (up2 (up2 (up2 (fun i k => if i = A.nR then 0 else A.R i k) A.nR 0 a) A.nR 1 b) A.nR 2 c) A.nR 3 d
theorem rmR_n (A : Ab) (a b c d : Int) {i k : Int} (h : i < A.nR) : rmR A a b c d i k = A.R i k := by
  unfold rmR
  rw [up2_n _ _ (by omega), up2_n _ _ (by omega), up2_n _ _ (by omega), up2_n _ _ (by omega)]
  exact if_neg (by omega)
theorem rmR_0 (A : Ab) (a b c d : Int) : rmR A a b c d A.nR 0 = a := by
  unfold rmR
  rw [up2_n _ _ (by omega), up2_n _ _ (by omega), up2_n _ _ (by omega), up2_s]
theorem rmR_1 (A : Ab) (a b c d : Int) : rmR A a b c d A.nR 1 = b := by
  unfold rmR
  rw [up2_n _ _ (by omega), up2_n _ _ (by omega), up2_s]
theorem rmR_2 (A : Ab) (a b c d : Int) : rmR A a b c d A.nR 2 = c := by
  unfold rmR
  rw [up2_n _ _ (by omega), up2_s]
theorem rmR_3 (A : Ab) (a b c d : Int) : rmR A a b c d A.nR 3 = d := by
  unfold rmR
  rw [up2_s]
theorem rmR_4 (A : Ab) (a b c d : Int) {k : Int} (h : 4 ≤ k) : rmR A a b c d A.nR k = 0 := by
  unfold rmR
  rw [up2_n _ _ (by omega), up2_n _ _ (by omega), up2_n _ _ (by omega), up2_n _ _ (by omega)]
  exact if_pos rfl
section RO
variable {V : Vn} {A : Ab} {K : Int}
theorem WF.rm (h : WF K A) (hn : A.nR < 4) {a b c d : Int} (ha : 20 ≤ a ∧ a ≤ 120) (hb : 0 ≤ b ∧ b ≤ 60) (hc : 1 ≤ c ∧ c ≤ 200) (hd : 2 ≤ d ∧ d ≤ 8) : WF K (rm A a b c d) := by
  obtain ⟨w1, w2, w3, w4, w5, w6, w7, w8⟩ := h
  have n1 : 0 ≤ A.nR + 1 ∧ A.nR + 1 ≤ 4 := by omega
  refine ⟨⟨n1.1, n1.2, w1.2.2⟩, w2, fun r r0 r1 => ?_, fun i i0 i1 => ?_, w5, w6, w7, fun i j i0 i1 j0 j1 hne q1 q2 q3 => ?_⟩
  · have r1 : r < A.nR + 1 := r1
    have w0 := w1.2.2.2.2.2.2
    show (20 ≤ rmR A a b c d r 0 ∧ rmR A a b c d r 0 ≤ 120) ∧ (0 ≤ rmR A a b c d r 1 ∧ rmR A a b c d r 1 ≤ 60) ∧ (1 ≤ rmR A a b c d r 2 ∧ rmR A a b c d r 2 ≤ 200) ∧ (2 ≤ rmR A a b c d r 3 ∧ rmR A a b c d r 3 ≤ 8) ∧ ∀ k : Int, 4 ≤ k → k < 11 → 0 ≤ rmR A a b c d r k ∧ rmR A a b c d r k ≤ 2000 * K
    by_cases e : r = A.nR
    · rw [e, rmR_0, rmR_1, rmR_2, rmR_3]
      refine ⟨ha, hb, hc, hd, fun k k0 k1 => ?_⟩
      rw [rmR_4 A a b c d k0]
      omega
    · have e' : r < A.nR := by omega
      rw [rmR_n A a b c d e', rmR_n A a b c d e', rmR_n A a b c d e', rmR_n A a b c d e']
      obtain ⟨b0, b1, b2, b3, b4⟩ := w3 r r0 e'
      refine ⟨b0, b1, b2, b3, fun k k0 k1 => ?_⟩
      rw [rmR_n A a b c d e']
      exact b4 k k0 k1
  · obtain ⟨b0, b1⟩ := w4 i i0 i1
    have : 0 ≤ A.B i 0 ∧ A.B i 0 < A.nR + 1 := by omega
    exact ⟨this, b1⟩
  · show rmR A a b c d (A.B i 0) 0 + rmR A a b c d (A.B i 0) 1 ≤ iabs (A.B i 1 - A.B j 1)
    have e' := (w4 i i0 i1).1.2
    rw [rmR_n A a b c d e', rmR_n A a b c d e']
    exact w8 i j i0 i1 j0 j1 hne q1 q2 q3
theorem RepX.rm (h : RepX V A) {g : Nat → Int32} {a b c d : Int} (hn : 0 ≤ A.nR) (hg : ∀ j : Nat, ((j : Int) < A.nR * 11 ∨ A.nR * 11 + 11 ≤ j) → g j = V.1.2 j) (hz : ∀ j : Nat, A.nR * 11 ≤ (j : Int) → (j : Int) < A.nR * 11 + 11 → g j = iI 0) : RepX ((iI (A.nR + 1), upd (upd (upd (upd g (A.nR * 11 + 0).toNat (iI a)) (A.nR * 11 + 1).toNat (iI b)) (A.nR * 11 + 2).toNat (iI c)) (A.nR * 11 + 3).toNat (iI d)), V.2) (rm A a b c d) := by
  obtain ⟨h1, h2, h3, h4, h5, hR, hB, hV, hS, hP⟩ := h
  refine ⟨rfl, h2, h3, h4, h5, fun r k q1 q2 q3 q4 => ?_, hB, hV, hS, hP⟩
  have q2 : r < A.nR + 1 := q2
  show upd (upd (upd (upd g (A.nR * 11 + 0).toNat (iI a)) (A.nR * 11 + 1).toNat (iI b)) (A.nR * 11 + 2).toNat (iI c)) (A.nR * 11 + 3).toNat (iI d) (r * 11 + k).toNat = iI (rmR A a b c d r k)
  by_cases e : r = A.nR
  · subst e
    rcases (show k = 0 ∨ k = 1 ∨ k = 2 ∨ k = 3 ∨ 4 ≤ k by omega) with rfl | rfl | rfl | rfl | e1
    · rw [ud_n (by omega), ud_n (by omega), ud_n (by omega), ud_s, rmR_0]
    · rw [ud_n (by omega), ud_n (by omega), ud_s, rmR_1]
    · rw [ud_n (by omega), ud_s, rmR_2]
    · rw [ud_s, rmR_3]
    · rw [ud_n (by omega), ud_n (by omega), ud_n (by omega), ud_n (by omega), rmR_4 A a b c d e1, hz _ (by omega) (by omega)]
  · have e' : r < A.nR := by omega
    rw [ud_n (by omega), ud_n (by omega), ud_n (by omega), ud_n (by omega), rmR_n A a b c d e', hg _ (by omega)]
    exact hR r k q1 e' q3 q4
end RO
