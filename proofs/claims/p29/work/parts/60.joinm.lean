/-! A merge: the reference's side. -/
section JM
variable {b : Nat → Int32} {Rm B V : Int → Int → Int} {S : Int → Int} {rows : Int → List Int} {F U : Int → Int} {nR nB nV t : Int}
theorem len_0 (l : List Int) : 0 ≤ len l := by unfold len; omega
end JM
section JM2
variable {A : Ab} {K : Int} {i j : Int}
end JM2
