/-! Free times; totals; what is looked at. -/
section FT
variable {V : Vn} {A : Ab} {K : Int}
def act (A : Ab) (room t : Int) : Int := ct (fun i => decide (A.B i 0 = room ∧ A.B i 3 < 2 ∧ t < A.B i 1 + (A.R room 0 + A.R room 1))) A.nB.toNat
theorem act_le (hW : WF K A) {room t : Int} : act A room t ≤ 16 := by
  have hn := hW.n
  have := ct_le (fun i => decide (A.B i 0 = room ∧ A.B i 3 < 2 ∧ t < A.B i 1 + (A.R room 0 + A.R room 1))) A.nB.toNat
  unfold act
  omega
theorem act_lt {room t c : Int} (hp : 0 < A.R room 0 + A.R room 1) (h1 : 0 ≤ c) (h2 : c < A.nB) (hc : Col A room t (-9) c) : act A room (A.B c 1 + (A.R room 0 + A.R room 1)) + 1 ≤ act A room t := by
  have hab := iabs_le (x := A.B c 1 - t)
  have h3 := hc.2.2.2
  unfold act
  refine ct_lt (fun i hi => ?_) (j := c) h1 (by simp) (by simp [hc.2.1, hc.2.2.1]; omega) A.nB.toNat (by omega)
  have h4 := of_decide_eq_true hi
  exact decide_eq_true ⟨h4.1, h4.2.1, by omega⟩
theorem act_no {room t : Int} (h : act A room t ≤ 0) (hp : 0 < A.R room 0 + A.R room 1) {c : Int} (h1 : 0 ≤ c) (h2 : c < A.nB) : ¬ Col A room t (-9) c := by
  intro hc
  have := act_lt hp h1 h2 hc
  have h0 : ∀ n : Nat, ct (fun _ => false) n = 0 := by
    intro n
    induction n with
    | zero => rfl
    | succ n ih => rw [ct, ih]; rfl
  have hz : 0 ≤ act A room (A.B c 1 + (A.R room 0 + A.R room 1)) := by
    unfold act
    have := ct_mono (p := fun _ => false) (q := fun i => decide (A.B i 0 = room ∧ A.B i 3 < 2 ∧ (A.B c 1 + (A.R room 0 + A.R room 1)) < A.B i 1 + (A.R room 0 + A.R room 1))) (fun _ q => by cases q) A.nB.toNat
    rw [h0] at this
    exact this
  omega
end FT
