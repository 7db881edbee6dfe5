/-! The reference's rows of payments; totals; free times. -/
section MP
variable {A : Ab} {K : Int}
theorem nodup_len : ∀ (n : Nat) (l : List Int), l.Nodup → (∀ x ∈ l, 0 ≤ x ∧ x < n) → l.length ≤ n := by
  intro n
  induction n with
  | zero =>
    intro l _ h
    cases l with
    | nil => exact Nat.le_refl _
    | cons a l => have := h a List.mem_cons_self; omega
  | succ n ih =>
    intro l hn h
    by_cases c : (n : Int) ∈ l
    · have h1 := ih (l.erase n) (hn.erase _) (fun x hx => by
        have hx1 := h x (List.mem_of_mem_erase hx)
        have hx2 : x ≠ (n : Int) := fun e => by
          rw [e] at hx
          exact (List.Nodup.not_mem_erase hn) hx
        omega)
      rw [List.length_erase_of_mem c] at h1
      omega
    · have h1 := ih l hn (fun x hx => by
        have hx1 := h x hx
        have hx2 : x ≠ (n : Int) := fun e => c (by rw [← e]; exact hx)
        omega)
      omega
theorem WF.ln (hW : WF K A) {i : Int} (h1 : 0 ≤ i) (h2 : i < A.nB) : 0 ≤ len (A.rows i) ∧ len (A.rows i) ≤ 16 := by
  have hn := hW.n
  have h := hW.2.2.2.2.2.1 i h1 h2
  have := nodup_len 16 (A.rows i) h.1 (fun x hx => by
    have := (h.2 x hx).1
    omega)
  unfold len
  omega
end MP
