/-! The forecasts' faces: both sides answer alike. -/
theorem no0 {x a b : Int} (h : ¬ (a ≤ x ∧ x < b)) : (a ≤ x ∧ x < b) = False := eq_false h
section AG
variable {V : Vn} {A : Ab} {K : Int}
end AG
