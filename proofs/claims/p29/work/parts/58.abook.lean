/-! A new booking: the action. -/
section BK
variable {V : Vn} {A : Ab} {K : Int}
theorem repXnb (h : RepX V A) (hW : WF K A) (hn : A.nB < 16) {T W P : Tb} {r t p c d v : Int} (hT : T.1 = iI (A.nB + 1)) (ho : ∀ j : Int, 0 ≤ j → j < A.nB * 10 → T.2 j.toNat = V.2.1.2 j.toNat) (c0 : T.2 (A.nB * 10 + 0).toNat = iI r) (c1 : T.2 (A.nB * 10 + 1).toNat = iI t) (c2 : T.2 (A.nB * 10 + 2).toNat = iI p) (c3 : T.2 (A.nB * 10 + 3).toNat = iI 0) (c4 : T.2 (A.nB * 10 + 4).toNat = iI c) (c5 : T.2 (A.nB * 10 + 5).toNat = iI (c - d)) (c7 : T.2 (A.nB * 10 + 7).toNat = iI 0) (c8 : T.2 (A.nB * 10 + 8).toNat = iI (-9)) (c9 : T.2 (A.nB * 10 + 9).toNat = iI (-9)) (hP : Pd V A d v W P) : RepX (V.1, T, W, P, V.2.2.2.2.1, iI (A.t + (c - d))) (nb A r t p c d v) := by
  have hN := hW.n
  have cells : ∀ i k : Int, 0 ≤ i → i < A.nB + 1 → 0 ≤ k → k < 10 → k ≠ 6 → T.2 (i * 10 + k).toNat = iI (nbB A r t p c (c - d) i (clm k)) := by
    intro i k i0 i1 k0 k1 k2
    by_cases e : i = A.nB
    · rw [e]
      rcases (show k = 0 ∨ k = 1 ∨ k = 2 ∨ k = 3 ∨ k = 4 ∨ k = 5 ∨ k = 7 ∨ k = 8 ∨ k = 9 by omega) with rfl | rfl | rfl | rfl | rfl | rfl | rfl | rfl | rfl
      · rw [show clm 0 = 0 from rfl, nbB_0]; exact c0
      · rw [show clm 1 = 1 from rfl, nbB_1]; exact c1
      · rw [show clm 2 = 2 from rfl, nbB_2]; exact c2
      · rw [show clm 3 = 3 from rfl, nbB_3]; exact c3
      · rw [show clm 4 = 4 from rfl, nbB_4]; exact c4
      · rw [show clm 5 = 5 from rfl, nbB_5]; exact c5
      · rw [show clm 7 = 6 from rfl, nbB_6]; exact c7
      · rw [show clm 8 = 7 from rfl, nbB_7]; exact c8
      · rw [show clm 9 = 8 from rfl, nbB_8]; exact c9
    · rw [nbB_o _ _ _ _ _ _ (by omega), ho _ (by omega) (by omega)]
      exact h.2.2.2.2.2.2.1 i k i0 (by omega) k0 k1 k2
  obtain ⟨nP, pb, pq, pl, hQ⟩ := h.P
  have hp := hQ.n hW
  unfold nb
  rcases hP with ⟨hd, rfl, rfl⟩ | ⟨hd, hv, rfl, nP', a1, a2, a3, a4, a5, a6, a7, a8, a9⟩
  · rw [if_neg (by omega)]
    exact ⟨h.1, hT, h.2.2.1, h.2.2.2.1, rfl, h.2.2.2.2.2.1, cells, h.2.2.2.2.2.2.2.1, h.2.2.2.2.2.2.2.2.1, nP, pb, pq, pl, PP.nbn hQ rfl rfl rfl rfl⟩
  · rw [if_pos hd]
    obtain rfl : nP' = nP := (iE (by omega) (by omega) (by omega) (by omega)).mp (a1.symm.trans hQ.1)
    refine ⟨h.1, hT, h.2.2.1, h.2.2.2.1, rfl, h.2.2.2.2.2.1, cells, fun x y q1 q2 q3 q4 => ?_, h.2.2.2.2.2.2.2.2.1, _, _, _, _, PP.nbp hQ hW a4 a5 ?_ ?_ a8 a9 rfl rfl (fun z hz => ⟨up1_n _ _ (Or.inl hz), up1_n _ _ (Or.inl hz)⟩)⟩
    · show upd V.2.2.1.2 (v * 2 + 1).toNat (iI (A.V v 1 - d)) (x * 2 + y).toNat = iI (up2 A.V v 1 (A.V v 1 - d) x y)
      by_cases e : x = v ∧ y = 1
      · obtain ⟨rfl, rfl⟩ := e
        rw [ud_s, up2_s]
      · rw [ud_n (by omega), h.2.2.2.2.2.2.2.1 x y q1 q2 q3 q4]
        exact congrArg iI (if_neg e).symm
    · show P.2 _ = iI (up1 A.F A.nB v A.nB)
      rw [up1_s]; exact a6
    · show P.2 _ = iI (up1 A.U A.nB d A.nB)
      rw [up1_s]; exact a7
end BK
