/-! run(). -/
section AR2
variable {M : Xm} {m : Md} {K : Int}
theorem simRun (hI : Inv K M m) (hK : K + 142 ≤ 80000) : Sim (K + 140) (fX8_run M) (fX9_run m) := by
  obtain ⟨a, n, H, L, tx, g1, g2, g3, g4, g5, g6, g7, g8, g9, g10, g11⟩ := hI
  obtain ⟨S, G, t, u, l, kd', st, en⟩ := M
  obtain ⟨s, p, f, n', T, l', sp', st', w, u2⟩ := m
  have g5 : n' = iI n := g5
  have g9 : l = iI L := g9
  have g10 : l' = iI L := g10
  subst g5 g9 g10
  have g1 : StX S a := g1
  have g2 : HX G n H := g2
  have g3 : StM s a := g3
  have g4 : HM p n H := g4
  have ht : Tx tx L t := fun j j0 j1 => ⟨(g11 j j0 j1).1, (g11 j j0 j1).2.1⟩
  have hT : Tx tx L T := fun j j0 j1 => ⟨(g11 j j0 j1).1, (g11 j j0 j1).2.2⟩
  obtain ⟨G', e1, e2, e3⟩ := prepX g2 g1 g6
  obtain ⟨g, c1, c2⟩ := holdM (s := s) (p := p) (a := f) (R := (iI n, T, iI L, sp', st', w, u2))
  obtain ⟨b, b1, b2⟩ := mSkip (s := s) (p := p) (a := g) (n := iI n) (st := st') (w := w) (u := u2) hT g8 (e := 0) (by omega) (by omega)
  have hW0 : WF (K + 0) a.1 := by rw [Int.add_zero]; exact g6.1
  have hg : StM g a := g3.cong g6 c2
  have hr := runBoth (p := p) (a := g) (n := iI n) ht hT g8 hK 141 FU FU 0 b 0 S.1 s a.1 u u2 kd' st w (by omega) (by omega) (by omega) (by unfold FU; omega) (by unfold FU; omega) (by omega) (by omega) b2 g1.1 g3.1 hW0
  have ex0 : ∀ r N, fX3_perform_l7 (fun M21 => some ((-1000) - (M21.1.2.2.2.2.1), M21)) FU ((t, u, iI L, kd', st, iI 0), S.1) (iI 0) = some (r, N) → fX3_perform ((t, u, iI L, kd', st, en), S.1) = some (r, N) := fun r N h => by
    unfold fX3_perform
    simp only [nmD]
    exact h
  have em0 : fX9_run (s, p, f, iI n, T, iI L, sp', st', w, u2) = fX9_run_l15 FU (s, p, g, iI n, T, iI L, iI b, iI b, w, u2) (iI 0) := by
    clear hr ex0 hg hW0 b2 c2 e1 e2 e3 ht hT g1 g2 g3 g4 g6 g7 g11
    simp (disch := omega) only [nmD, bdS, b2S, lit32, iA, iS, iM, iN, iLt, iLe, iE, zlT, zlF, zleT, zleF, zeT, zeF, RdI, WrI, DvI, jmaxI, jminI, jabsI, bI0, Zb0, Zb1, ZbI, ↓reduceIte, not_true_eq_false, not_false_eq_true, ite_not, and_true, true_and, and_false, false_and, and_self, fX9_run, c1, b1]
  rcases hr with ⟨pl, ua, ub, f', k1, s1, en1, sp1, st1, w1, V', h1, h2, h3, h4⟩ | ⟨x', ua, ub, s', k1, s1, en1, sp1, st1, w1, V', A', h1, h2, h3, h4, h5, h6, h7⟩
  · have hx := ex0 _ _ h1
    obtain ⟨now', G2, q1, q2, q3⟩ := giveX (now := (V', S.2)) e2 e3 g6
    refine ⟨iI (-1000 - pl), (now', G2, t, ua, iI L, k1, s1, en1), (f', p, g, iI n, T, iI L, sp1, st1, w1, ub), ?_, em0.trans h2, a, n, H, L, tx, q3, q2, hg.cong g6 h4, g4, rfl, g6.mono (by omega) (by omega), fun k hk => (g7 k hk).mono (by omega) (by omega), g8, rfl, rfl, g11⟩
    clear em0 h1 h2 h4 hg hW0 b2 c1 c2 b1 e2 e3 ht hT g1 g2 g3 g4 g6 g7 g11 ex0 q2 q3
    simp (disch := omega) only [nmD, bdS, b2S, lit32, iA, iS, iM, iN, iLt, iLe, iE, zlT, zlF, zleT, zleF, zeT, zeF, RdI, WrI, DvI, jmaxI, jminI, jabsI, bI0, Zb0, Zb1, ZbI, ↓reduceIte, not_true_eq_false, not_false_eq_true, ite_not, and_true, true_and, and_false, false_and, and_self, fX8_run, e1, hx, q1]
  · have hx := ex0 _ _ h1
    have hc : ¬ iI x' < 0 := fun q => by
      rw [show (0 : Int32) = iI 0 from rfl, iLt (by omega) (by omega) (by omega) (by omega)] at q
      omega
    obtain ⟨G2, q1, q2⟩ := settleX e2 e3 hc
    obtain ⟨q, r1, r2⟩ := endsM (s := s') (R := (T, iI 0, sp1, st1, w1, ub)) g2.2.1 g4 g7 hg g6 hc
    have hHW : ∀ k : Nat, (k : Int) < n → WFS (K + 140) (H k) := fun k hk => (g7 k hk).mono (by omega) (by omega)
    have g6' := g6.mono (K' := K + 140) (by omega) (by omega)
    refine ⟨iI x', ((V', S.2), G2, t, ua, iI 0, k1, s1, en1), (s', q, g, iI (nNext n), T, iI 0, sp1, st1, w1, ub), ?_, ?_, (A', a.2), nNext n, hNext n H a, 0, tx, ⟨h4, g1.2⟩, q2, stm_new g3 g6 h5 h7, r2, rfl, ⟨h6, g6'.2⟩, hNext_W g2.2.1 hHW g6', by omega, rfl, rfl, fun j j0 j1 => by omega⟩
    · clear em0 h1 h2 h4 h5 h6 h7 hg hW0 b2 c1 c2 b1 e2 e3 ht hT g1 g2 g3 g4 g6 g7 g11 ex0 q2 r1 r2 hHW g6'
      simp (disch := omega) only [nmD, bdS, b2S, lit32, iA, iS, iM, iN, iLt, iLe, iE, zlT, zlF, zleT, zleF, zeT, zeF, RdI, WrI, DvI, jmaxI, jminI, jabsI, bI0, Zb0, Zb1, ZbI, ↓reduceIte, not_true_eq_false, not_false_eq_true, ite_not, and_true, true_and, and_false, false_and, and_self, fX8_run, e1, hx, fX3_empty, q1]
    · rw [em0, h2, r1]
      rfl
end AR2
