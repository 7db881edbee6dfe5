/-! Actions whose checks the reference does ahead of holding: price, setting, move. -/
section AH
variable {V : Vn} {A : Ab} {K : Int}
theorem most_b (k : Int) : 10 ≤ most k ∧ most k ≤ 60 := by
  unfold most
  split
  · omega
  · split
    · omega
    · split
      · omega
      · split <;> omega
theorem xMost {x : Int} (h1 : 0 ≤ x) (h2 : x < 5) : mstS.getD x.toNat (iI 0) = iI (most x) := by
  rcases (show x = 0 ∨ x = 1 ∨ x = 2 ∨ x = 3 ∨ x = 4 by omega) with rfl | rfl | rfl | rfl | rfl <;> rfl
end AH
