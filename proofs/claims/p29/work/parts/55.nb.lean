/-! A new booking: the venue behind it, and the reference's row. -/
def Ab.setNB (A : Ab) (l : List Int) : Ab := mkA A.R A.B A.V A.S (up1 A.rows A.nB l) A.F A.U A.nR (A.nB + 1) A.nV A.t
def nbB (A : Ab) (r t p c e : Int) : Int → Int → Int := up2 (up2 (up2 (up2 (up2 (up2 (up2 (up2 (up2 A.B A.nB 0 r) A.nB 1 t) A.nB 2 p) A.nB 3 0) A.nB 4 c) A.nB 5 e) A.nB 6 0) A.nB 7 (-9)) A.nB 8 (-9)
/-- a new booking: paid in cash, or with d more than 0 by the voucher v too -/
def nb (A : Ab) (r t p c d v : Int) : Ab := if 0 < d then mkA A.R (nbB A r t p c (c - d)) (up2 A.V v 1 (A.V v 1 - d)) A.S (up1 A.rows A.nB [A.nB]) (up1 A.F A.nB v) (up1 A.U A.nB d) A.nR (A.nB + 1) A.nV (A.t + (c - d)) else mkA A.R (nbB A r t p c (c - d)) A.V A.S (up1 A.rows A.nB []) A.F A.U A.nR (A.nB + 1) A.nV (A.t + (c - d))
theorem nbB_o (A : Ab) (r t p c e : Int) {i k : Int} (h : i < A.nB) : nbB A r t p c e i k = A.B i k := by
  unfold nbB
  rw [up2_n _ _ (by omega), up2_n _ _ (by omega), up2_n _ _ (by omega), up2_n _ _ (by omega), up2_n _ _ (by omega), up2_n _ _ (by omega), up2_n _ _ (by omega), up2_n _ _ (by omega), up2_n _ _ (by omega)]
theorem nbB_0 (A : Ab) (r t p c e : Int) : nbB A r t p c e A.nB 0 = r := by
  unfold nbB
  rw [up2_n _ _ (by omega), up2_n _ _ (by omega), up2_n _ _ (by omega), up2_n _ _ (by omega), up2_n _ _ (by omega), up2_n _ _ (by omega), up2_n _ _ (by omega), up2_n _ _ (by omega), up2_s]
theorem nbB_1 (A : Ab) (r t p c e : Int) : nbB A r t p c e A.nB 1 = t := by
  unfold nbB
  rw [up2_n _ _ (by omega), up2_n _ _ (by omega), up2_n _ _ (by omega), up2_n _ _ (by omega), up2_n _ _ (by omega), up2_n _ _ (by omega), up2_n _ _ (by omega), up2_s]
theorem nbB_2 (A : Ab) (r t p c e : Int) : nbB A r t p c e A.nB 2 = p := by
  unfold nbB
  rw [up2_n _ _ (by omega), up2_n _ _ (by omega), up2_n _ _ (by omega), up2_n _ _ (by omega), up2_n _ _ (by omega), up2_n _ _ (by omega), up2_s]
theorem nbB_3 (A : Ab) (r t p c e : Int) : nbB A r t p c e A.nB 3 = 0 := by
  unfold nbB
  rw [up2_n _ _ (by omega), up2_n _ _ (by omega), up2_n _ _ (by omega), up2_n _ _ (by omega), up2_n _ _ (by omega), up2_s]
theorem nbB_4 (A : Ab) (r t p c e : Int) : nbB A r t p c e A.nB 4 = c := by
  unfold nbB
  rw [up2_n _ _ (by omega), up2_n _ _ (by omega), up2_n _ _ (by omega), up2_n _ _ (by omega), up2_s]
theorem nbB_5 (A : Ab) (r t p c e : Int) : nbB A r t p c e A.nB 5 = e := by
  unfold nbB
  rw [up2_n _ _ (by omega), up2_n _ _ (by omega), up2_n _ _ (by omega), up2_s]
theorem nbB_6 (A : Ab) (r t p c e : Int) : nbB A r t p c e A.nB 6 = 0 := by
  unfold nbB
  rw [up2_n _ _ (by omega), up2_n _ _ (by omega), up2_s]
theorem nbB_7 (A : Ab) (r t p c e : Int) : nbB A r t p c e A.nB 7 = -9 := by
  unfold nbB
  rw [up2_n _ _ (by omega), up2_s]
theorem nbB_8 (A : Ab) (r t p c e : Int) : nbB A r t p c e A.nB 8 = -9 := by
  unfold nbB
  rw [up2_s]
theorem len_nil : len ([] : List Int) = 0 := rfl
theorem len_one (x : Int) : len [x] = 1 := rfl
/-! the setters over a venue that is written out -/
section FL
variable {b : Nat → Int32} {Rm B V : Int → Int → Int} {S : Int → Int} {rows : Int → List Int} {F U : Int → Int} {nR nB nV t : Int}
end FL
theorem Ab.eta (A : Ab) : mkA A.R A.B A.V A.S A.rows A.F A.U A.nR A.nB A.nV A.t = A := rfl
theorem WF.nbw {A A' : Ab} {K : Int} (hW : WF K A) (hn : A.nB < 16) {r t p c d : Int} {l : List Int} (hR : A'.R = A.R) (hS : A'.S = A.S) (eR : A'.nR = A.nR) (eB : A'.nB = A.nB + 1) (eV : A'.nV = A.nV)
    (hB : ∀ i k : Int, i < A.nB → A'.B i k = A.B i k) (b0 : A'.B A.nB 0 = r) (b1 : A'.B A.nB 1 = t) (b2 : A'.B A.nB 2 = p) (b3 : A'.B A.nB 3 = 0) (b4 : A'.B A.nB 4 = c) (b5 : A'.B A.nB 5 = c - d)
    (hV : ∀ v : Int, 0 ≤ v → v < A.nV → 0 ≤ A'.V v 1 ∧ A'.V v 1 ≤ 500 + 2000 * K) (hr : A'.rows = up1 A.rows A.nB l) (hF : ∀ p : Int, p < A.nB → A'.F p = A.F p ∧ A'.U p = A.U p)
    (hd : (d = 0 ∧ l = []) ∨ (l = [A.nB] ∧ 0 < d ∧ A'.U A.nB = d ∧ 0 ≤ A'.F A.nB ∧ A'.F A.nB < A.nV))
    (h0 : 0 ≤ r ∧ r < A.nR) (h1 : 0 ≤ t ∧ t ≤ 720) (h2 : 0 ≤ p ∧ p ≤ 8) (h4 : 0 ≤ c ∧ c ≤ 200 * p) (h5 : 0 ≤ d ∧ d ≤ c) (hp : Poss A r t (-9)) : WF K A' := by
  obtain ⟨w1, w2, w3, w4, w5, w6, w7, w8⟩ := hW
  have ro : ∀ i : Int, i < A.nB → A'.rows i = A.rows i := fun i hi => by rw [hr]; exact up1_n _ _ (by omega)
  have rn : A'.rows A.nB = l := by rw [hr]; exact up1_s _ _ _
  have so : ∀ i : Int, 0 ≤ i → i < A.nB → rsum A' i = rsum A i := fun i i0 i1 => by
    unfold rsum
    rw [ro i i1]
    congr 1
    refine List.map_congr_left (fun x hx => ?_)
    have := (w6 i i0 i1).2 x hx
    exact (hF x this.1.2).2
  have sn : rsum A' A.nB = d := by
    unfold rsum
    rw [rn]
    rcases hd with ⟨rfl, rfl⟩ | ⟨rfl, -, hu, -⟩
    · rfl
    · show A'.U A.nB + 0 = d
      omega
  have hm : ∀ i q : Int, 0 ≤ i → i < A.nB + 1 → q ∈ A'.rows i → (i < A.nB ∧ q < A.nB ∧ q ∈ A.rows i) ∨ (i = A.nB ∧ q = A.nB ∧ 0 < d ∧ A'.U A.nB = d ∧ 0 ≤ A'.F A.nB ∧ A'.F A.nB < A.nV) := fun i q i0 i1 hq => by
    by_cases e : i = A.nB
    · rw [e, rn] at hq
      rcases hd with ⟨-, rfl⟩ | ⟨rfl, z⟩
      · exact absurd hq List.not_mem_nil
      · exact Or.inr ⟨e, List.mem_singleton.mp hq, z⟩
    · have e' : i < A.nB := by omega
      rw [ro i e'] at hq
      exact Or.inl ⟨e', ((w6 i i0 e').2 q hq).1.2, hq⟩
  refine ⟨?_, ?_, ?_, ?_, ?_, ?_, ?_, ?_⟩
  · rw [eR, eB, eV]; omega
  · rw [hS]; exact w2
  · rw [hR, eR]; exact w3
  · intro i i0 i1
    rw [eB] at i1
    rw [eR]
    by_cases e : i = A.nB
    · rw [e, b0, b1, b2, b3, b4, b5, sn]
      omega
    · have e' : i < A.nB := by omega
      rw [hB i 0 e', hB i 1 e', hB i 2 e', hB i 3 e', hB i 4 e', hB i 5 e', so i i0 e']
      exact w4 i i0 e'
  · rw [eV]; exact hV
  · intro i i0 i1
    rw [eB] at i1
    refine ⟨?_, fun q hq => ?_⟩
    · by_cases e : i = A.nB
      · rw [e, rn]
        rcases hd with ⟨-, rfl⟩ | ⟨rfl, -⟩
        · exact List.nodup_nil
        · exact List.nodup_cons.mpr ⟨List.not_mem_nil, List.nodup_nil⟩
      · rw [ro i (by omega)]
        exact (w6 i i0 (by omega)).1
    · rw [eB, eV]
      rcases hm i q i0 i1 hq with ⟨e', e2, hq2⟩ | ⟨e, e2, z1, z2, z3, z4⟩
      · rw [(hF q e2).1, (hF q e2).2, hB i 3 e']
        obtain ⟨q1, q2, q3, q4⟩ := (w6 i i0 e').2 q hq2
        exact ⟨⟨q1.1, by omega⟩, q2, q3, q4⟩
      · rw [e2, z2, e, b3]
        exact ⟨⟨w1.2.2.1, by omega⟩, ⟨z3, z4⟩, ⟨by omega, by omega⟩, fun _ => z1⟩
  · intro i j q i0 i1 j0 j1 hi hj
    rw [eB] at i1 j1
    rcases hm i q i0 i1 hi with ⟨a1, a2, a3⟩ | ⟨a1, a2, -⟩
    · rcases hm j q j0 j1 hj with ⟨c1, c2, c3⟩ | ⟨c1, c2, -⟩
      · exact w7 i j q i0 a1 j0 c1 a3 c3
      · omega
    · rcases hm j q j0 j1 hj with ⟨c1, c2, c3⟩ | ⟨c1, c2, -⟩
      · omega
      · omega
  · intro i j i0 i1 j0 j1 hne q1 q2 q3
    rw [eB] at i1 j1
    rw [hR]
    by_cases e : i = A.nB
    · have e' : j < A.nB := by omega
      rw [e, b0, hB j 0 e'] at q1
      rw [hB j 3 e'] at q3
      rw [e, b0, b1, hB j 1 e', iabs_sym]
      exact (hp j j0 e' (by omega) q1.symm q3).1
    · have e' : i < A.nB := by omega
      rw [hB i 0 e'] at q1
      rw [hB i 3 e'] at q2
      by_cases f : j = A.nB
      · rw [f, b0] at q1
        rw [f, b1, hB i 0 e', hB i 1 e', q1]
        exact (hp i i0 e' (by omega) q1 q2).1
      · have f' : j < A.nB := by omega
        rw [hB j 0 f'] at q1
        rw [hB j 3 f'] at q3
        rw [hB i 0 e', hB i 1 e', hB j 1 f']
        exact w8 i j i0 e' j0 f' hne q1 q2 q3
