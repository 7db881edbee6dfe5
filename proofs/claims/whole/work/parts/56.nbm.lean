/-! A new booking: the reference's side. -/
section NM
variable {A : Ab} {K : Int} {s : Nat → Int32} {R : Rs}
theorem WF.nbf (hW : WF K A) (hn : A.nB < 16) {r t p c d v : Int} (h0 : 0 ≤ r ∧ r < A.nR) (h1 : 0 ≤ t ∧ t ≤ 720) (h2 : 0 ≤ p ∧ p ≤ 8) (h4 : 0 ≤ c ∧ c ≤ 200 * p) (h5 : 0 ≤ d ∧ d ≤ c) (hv : 0 < d → 0 ≤ v ∧ v < A.nV ∧ d ≤ A.V v 1) (hp : Poss A r t (-9)) : WF K (nb A r t p c d v) := by
  unfold nb
  by_cases q : 0 < d
  · rw [if_pos q]
    obtain ⟨v0, v1, v2⟩ := hv q
    refine WF.nbw (r := r) (t := t) (p := p) (c := c) (d := d) (l := [A.nB]) hW hn rfl rfl rfl rfl rfl (fun i k hi => nbB_o A r t p c (c - d) hi) (nbB_0 A r t p c (c - d)) (nbB_1 A r t p c (c - d)) (nbB_2 A r t p c (c - d)) (nbB_3 A r t p c (c - d)) (nbB_4 A r t p c (c - d)) (nbB_5 A r t p c (c - d)) (fun x x0 x1 => ?_) rfl (fun z hz => ⟨up1_n _ _ (Or.inl hz), up1_n _ _ (Or.inl hz)⟩) (Or.inr ⟨rfl, q, up1_s _ _ _, ?_, ?_⟩) h0 h1 h2 h4 h5 hp
    · show 0 ≤ up2 A.V v 1 (A.V v 1 - d) x 1 ∧ up2 A.V v 1 (A.V v 1 - d) x 1 ≤ 500 + 2000 * K
      have := hW.2.2.2.2.1 x x0 x1
      by_cases e : x = v
      · rw [e, up2_s]
        rw [e] at this
        omega
      · rw [up2_n _ _ (by omega)]
        exact this
    · show 0 ≤ up1 A.F A.nB v A.nB
      rw [up1_s]
      exact v0
    · show up1 A.F A.nB v A.nB < A.nV
      rw [up1_s]
      exact v1
  · rw [if_neg q]
    exact WF.nbw (r := r) (t := t) (p := p) (c := c) (d := d) (l := []) hW hn rfl rfl rfl rfl rfl (fun i k hi => nbB_o A r t p c (c - d) hi) (nbB_0 A r t p c (c - d)) (nbB_1 A r t p c (c - d)) (nbB_2 A r t p c (c - d)) (nbB_3 A r t p c (c - d)) (nbB_4 A r t p c (c - d)) (nbB_5 A r t p c (c - d)) hW.2.2.2.2.1 rfl (fun z hz => ⟨rfl, rfl⟩) (Or.inl ⟨by omega, rfl⟩) h0 h1 h2 h4 h5 hp
set_option maxHeartbeats 4000000 in
theorem mBook (hM : RepM s A) (hW : WF K A) (hn : A.nB < 16) {r t p c d v : Int} (hd : 0 ≤ d ∧ d ≤ 1600) (hv : 0 < d → 0 ≤ v ∧ v < A.nV) : ∃ s' : Nat → Int32, fX9_doBook_j125 (s, R) (iI r) (iI t) (iI p) (iI v) (iI A.nB) (iI c) (iI d) = some (iI A.nB, (s', R)) ∧ RepM s' (nb A r t p c d v) ∧ ∀ j : Nat, 517 ≤ j → s' j = s j := by
  have hN := hW.n
  have hl := hW.l16
  have hM : RepM s (mkA A.R A.B A.V A.S A.rows A.F A.U A.nR A.nB A.nV A.t) := hM
  obtain ⟨s0, k0, z0, t0⟩ := flLays (R := R) hM hl.1 hl.2 (i := A.nB) (c := 0) (v := r) (by omega) (by omega) (by omega) (by omega)
  obtain ⟨s1, k1, z1, t1⟩ := flLays (R := R) z0 hl.1 hl.2 (i := A.nB) (c := 1) (v := t) (by omega) (by omega) (by omega) (by omega)
  obtain ⟨s2, k2, z2, t2⟩ := flLays (R := R) z1 hl.1 hl.2 (i := A.nB) (c := 2) (v := p) (by omega) (by omega) (by omega) (by omega)
  obtain ⟨s3, k3, z3, t3⟩ := flLays (R := R) z2 hl.1 hl.2 (i := A.nB) (c := 3) (v := 0) (by omega) (by omega) (by omega) (by omega)
  obtain ⟨s4, k4, z4, t4⟩ := flLays (R := R) z3 hl.1 hl.2 (i := A.nB) (c := 4) (v := c) (by omega) (by omega) (by omega) (by omega)
  obtain ⟨s5, k5, z5, t5⟩ := flLays (R := R) z4 hl.1 hl.2 (i := A.nB) (c := 5) (v := c - d) (by omega) (by omega) (by omega) (by omega)
  obtain ⟨s6, k6, z6, t6⟩ := flLays (R := R) z5 hl.1 hl.2 (i := A.nB) (c := 6) (v := 0) (by omega) (by omega) (by omega) (by omega)
  obtain ⟨s7, k7, z7, t7⟩ := flLays (R := R) z6 hl.1 hl.2 (i := A.nB) (c := 7) (v := -9) (by omega) (by omega) (by omega) (by omega)
  obtain ⟨s8, k8, z8, t8⟩ := flLays (R := R) z7 hl.1 hl.2 (i := A.nB) (c := 8) (v := -9) (by omega) (by omega) (by omega) (by omega)
  have tt : ∀ j : Nat, 517 ≤ j → s8 j = s j := fun j hj => by rw [t8 j hj, t7 j hj, t6 j hj, t5 j hj, t4 j hj, t3 j hj, t2 j hj, t1 j hj, t0 j hj]
  clear t0 t1 t2 t3 t4 t5 t6 t7 t8 z0 z1 z2 z3 z4 z5 z6 z7
  have y1 := flO (j := 197 + A.nB) (x := iI 0) z8 hN.2.2.1 hn hl.2 (Or.inl rfl)
  have u3 := fl3 y1
  have y2 := flT y1 hl.1 hl.2 (v := A.t + (c - d))
  have e1 : (1 : Int).toNat = 1 := rfl
  have e3 : (3 : Int).toNat = 3 := rfl
  unfold nb
  by_cases q : 0 < d
  · rw [if_pos q]
    obtain ⟨v0, v1⟩ := hv q
    have u5 : upd (upd s8 (197 + A.nB).toNat (iI 0)) 3 (iI (A.t + (c - d))) (501 + 2 * v + 1).toNat = iI (A.V v 1) := flv y2 v0 (by omega) (by omega) (by omega)
    have y3 := flV y2 hl.1 hl.2 (i := v) (c := 1) (v := A.V v 1 - d) v0 (by omega) (by omega) (by omega)
    have y4 := flF y3 hl.1 hl.2 (p := A.nB) (v := v) hN.2.2.1 (by omega)
    have y5 := flU y4 hl.1 hl.2 (p := A.nB) (v := d) hN.2.2.1 (by omega)
    have y6 := flO (j := 213 + 16 * A.nB) (x := iI A.nB) y5 hN.2.2.1 hn hl.2 (Or.inr rfl)
    have y7 := flO (j := 197 + A.nB) (x := iI 1) y6 hN.2.2.1 hn hl.2 (Or.inl rfl)
    have u1 := fl1 y7
    have y8 := flN (l := [A.nB]) y7 hN.2.2.1 hn hl.2 (by rw [len_one]; omega) ud_s (fun k k0 k1 => by
      rw [len_one] at k1
      obtain rfl : k = 0 := by omega
      show upd (upd _ (213 + 16 * A.nB).toNat (iI A.nB)) (197 + A.nB).toNat (iI 1) (213 + 16 * A.nB + 0).toNat = iI A.nB
      rw [ud_n (by omega)]
      exact ud_e (by omega))
    refine ⟨_, ?_, y8, fun j hj => ?_⟩
    · clear y1 y2 y3 y4 y5 y6 y7 y8 z8 hl hM hW tt hv
      simp (disch := omega) only [nmD, bdS, b2S, lit32, iA, iS, iM, iN, iLt, iLe, iE, zlT, zlF, zleT, zleF, zeT, zeF, RdI, WrI, DvI, jmaxI, jminI, jabsI, bI0, Zb0, Zb1, ZbI, ↓reduceIte, not_true_eq_false, not_false_eq_true, ite_not, and_true, true_and, and_false, false_and, and_self, fX9_doBook_j125, fX9_doBook_j314, k0, k1, k2, k3, k4, k5, k6, k7, k8, e1, e3, u3, u5, u1]
    · rw [ud_n (by omega), ud_n (by omega), ud_n (by omega), ud_n (by omega), ud_n (by omega), ud_n (by omega), ud_n (by omega), ud_n (by omega)]
      exact tt j hj
  · rw [if_neg q]
    have u1 : upd (upd s8 (197 + A.nB).toNat (iI 0)) 3 (iI (A.t + (c - d))) 1 = iI A.nB := fl1 y2
    have y8 := flN (l := []) y2 hN.2.2.1 hn hl.2 (by rw [len_nil]; omega) (by
      show upd (upd s8 (197 + A.nB).toNat (iI 0)) 3 (iI (A.t + (c - d))) (197 + A.nB).toNat = iI 0
      rw [ud_n (by omega)]
      exact ud_s) (fun k k0 k1 => by
      rw [len_nil] at k1
      omega)
    refine ⟨_, ?_, y8, fun j hj => ?_⟩
    · clear y1 y2 y8 z8 hl hM hW tt hv
      simp (disch := omega) only [nmD, bdS, b2S, lit32, iA, iS, iM, iN, iLt, iLe, iE, zlT, zlF, zleT, zleF, zeT, zeF, RdI, WrI, DvI, jmaxI, jminI, jabsI, bI0, Zb0, Zb1, ZbI, ↓reduceIte, not_true_eq_false, not_false_eq_true, ite_not, and_true, true_and, and_false, false_and, and_self, fX9_doBook_j125, fX9_doBook_j314, k0, k1, k2, k3, k4, k5, k6, k7, k8, e1, e3, u3, u1]
    · rw [ud_n (by omega), ud_n (by omega), ud_n (by omega)]
      exact tt j hj
end NM
