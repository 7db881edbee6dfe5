/-! A new booking: the reference's side. -/
section NM
variable {A : Ab} {K : Int}
theorem WF.nbf (hW : WF K A) (hn : A.nB < 16) {r t p c d v : Int} (h0 : 0 ≤ r ∧ r < A.nR) (h1 : 0 ≤ t ∧ t ≤ 720) (h2 : 0 ≤ p ∧ p ≤ 8) (h4 : 0 ≤ c ∧ c ≤ 200 * p) (h5 : 0 ≤ d ∧ d ≤ c) (hv : 0 < d → 0 ≤ v ∧ v < A.nV ∧ d ≤ A.V v 1) (hp : Poss A r t (-9)) : WF K (nb A r t p c d v) := by
  unfold nb
  by_cases q : 0 < d
  · rw [if_pos q]
    obtain ⟨v0, v1, v2⟩ := hv q
    refine WF.nbw (r := r) (t := t) (p := p) (c := c) (d := d) (l := [A.nB]) hW hn rfl rfl rfl rfl rfl (fun i k hi => nbB_o A r t p c (c - d) hi) (nbB_0 A r t p c (c - d)) (nbB_1 A r t p c (c - d)) (nbB_2 A r t p c (c - d)) (nbB_3 A r t p c (c - d)) (nbB_4 A r t p c (c - d)) (nbB_5 A r t p c (c - d)) (fun x x0 x1 => ?_) rfl (fun z hz => ⟨up1_n _ _ (Or.inl hz), up1_n _ _ (Or.inl hz)⟩) (Or.inr ⟨rfl, q, up1_s _ _ _, ?_, ?_⟩) h0 h1 h2 h4 h5 hp
    · show 0 ≤ up2 A.V v 1 (A.V v 1 - d) x 1 ∧ up2 A.V v 1 (A.V v 1 - d) x 1 ≤ 500 + 2000 * K
      have := hW.2.2.2.2.1 x x0 x1
      by_cases e : x = v
      · rw [e, up2_s]
        rw [e] at this
        omega
      · rw [up2_n _ _ (by omega)]
        exact this
    · show 0 ≤ up1 A.F A.nB v A.nB
      rw [up1_s]
      exact v0
    · show up1 A.F A.nB v A.nB < A.nV
      rw [up1_s]
      exact v1
  · rw [if_neg q]
    exact WF.nbw (r := r) (t := t) (p := p) (c := c) (d := d) (l := []) hW hn rfl rfl rfl rfl rfl (fun i k hi => nbB_o A r t p c (c - d) hi) (nbB_0 A r t p c (c - d)) (nbB_1 A r t p c (c - d)) (nbB_2 A r t p c (c - d)) (nbB_3 A r t p c (c - d)) (nbB_4 A r t p c (c - d)) (nbB_5 A r t p c (c - d)) hW.2.2.2.2.1 rfl (fun z hz => ⟨rfl, rfl⟩) (Or.inl ⟨by omega, rfl⟩) h0 h1 h2 h4 h5 hp
end NM
