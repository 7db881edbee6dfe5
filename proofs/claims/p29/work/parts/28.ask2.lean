/-! The rooms by their use, pairs to be merged, free times. -/
theorem WF.m {A : Ab} {K : Int} (hW : WF K A) {r : Int} (h1 : 0 ≤ r) (h2 : r < A.nR) : 0 ≤ A.R r 8 ∧ A.R r 8 ≤ 160000000 := by
  have h := (hW.2.2.1 r h1 h2).2.2.2.2 8 (by omega) (by omega)
  have hk := hW.n
  omega
def ahS (A : Ab) (r : Int) : Int → Int → Int := fun k a => if A.R r 8 < A.R k 8 then a + 1 else if A.R k 8 = A.R r 8 then (if k < r then a + 1 else a) else a
section US
variable {V : Vn} {A : Ab} {K : Int}
theorem ahB {r : Int} : ∀ (k : Nat) (i a : Int), 0 ≤ a → 0 ≤ lp (ahS A r) k i a ∧ lp (ahS A r) k i a ≤ a + k := by
  intro k
  induction k with
  | zero => intro i a h; rw [lp_z]; omega
  | succ k ih =>
    intro i a h
    rw [lp_s]
    have h1 : a ≤ ahS A r i a ∧ ahS A r i a ≤ a + 1 := by
      unfold ahS
      repeat' split
      all_goals omega
    have := ih (i + 1) (ahS A r i a) (by omega)
    omega
def Mg (A : Ab) (room i j : Int) : Prop := A.B i 3 = 0 ∧ A.B j 3 = 0 ∧ A.B i 0 = room ∧ A.B j 0 = room ∧ A.B i 2 + A.B j 2 ≤ A.R room 3
end US
