/-! The other calls: reads, text, undo, count. -/
section RD
variable {M : Xm} {m : Md} {K : Int}
theorem simRoom (hI : Inv K M m) (x1 x2 : Int32) : ∃ r : Int32, fX8_room M x1 x2 = some (r, M) ∧ fX9_room m x1 x2 = some r := by
  obtain ⟨a, n, H, L, tx, g1, g2, g3, g4, g5, g6, -⟩ := hI
  exact agRoom g1.1 g3.1 g6.1 x1 x2
theorem simBooking (hI : Inv K M m) (x1 x2 : Int32) : ∃ r : Int32, fX8_booking M x1 x2 = some (r, M) ∧ fX9_booking m x1 x2 = some r := by
  obtain ⟨a, n, H, L, tx, g1, g2, g3, g4, g5, g6, -⟩ := hI
  exact agBooking g1.1 g3.1 g6.1 x1 x2
theorem simVoucher (hI : Inv K M m) (x1 x2 : Int32) : ∃ r : Int32, fX8_voucher M x1 x2 = some (r, M) ∧ fX9_voucher m x1 x2 = some r := by
  obtain ⟨a, n, H, L, tx, g1, g2, g3, g4, g5, g6, -⟩ := hI
  exact agVoucher g1.1 g3.1 g6.1 x1 x2
theorem simMoney (hI : Inv K M m) (x1 : Int32) : ∃ r : Int32, fX8_money M x1 = some (r, M) ∧ fX9_money m x1 = some r := by
  obtain ⟨a, n, H, L, tx, g1, g2, g3, g4, g5, g6, -⟩ := hI
  exact agMoney g1.1 g3.1 g6.1 x1
theorem simForecast (hI : Inv K M m) (x1 x2 : Int32) : ∃ r : Int32, fX8_forecast M x1 x2 = some (r, M) ∧ fX9_forecast m x1 x2 = some r := by
  obtain ⟨a, n, H, L, tx, g1, g2, g3, g4, g5, g6, -⟩ := hI
  obtain ⟨r, e1, e2⟩ := agForecast g1.1 g3.1 g6.1 x1 x2
  exact ⟨r, by unfold fX8_forecast; rw [e1, bdS], e2⟩
theorem simFree (hI : Inv K M m) (x1 x2 : Int32) : ∃ r : Int32, fX8_freeTime M x1 x2 = some (r, M) ∧ fX9_freeTime m x1 x2 = some r := by
  obtain ⟨a, n, H, L, tx, g1, g2, g3, g4, g5, g6, -⟩ := hI
  obtain ⟨r, e1, e2⟩ := agFree g1.1 g3.1 g6.1 x1 x2
  exact ⟨r, by unfold fX8_freeTime; rw [e1, bdS], e2⟩
theorem simMergeable (hI : Inv K M m) (x1 x2 : Int32) : ∃ r : Int32, fX8_mergeable M x1 x2 = some (r, M) ∧ fX9_mergeable m x1 x2 = some r := by
  obtain ⟨a, n, H, L, tx, g1, g2, g3, g4, g5, g6, -⟩ := hI
  obtain ⟨r, e1, e2⟩ := agPair g1.1 g3.1 g6.1 x1 x2
  exact ⟨r, by unfold fX8_mergeable; rw [e1, bdS], e2⟩
theorem simSlack (hI : Inv K M m) (x1 : Int32) : ∃ r : Int32, fX8_slack M x1 = some (r, M) ∧ fX9_slack m x1 = some r := by
  obtain ⟨a, n, H, L, tx, g1, g2, g3, g4, g5, g6, -⟩ := hI
  obtain ⟨r, e1, e2⟩ := agSlack g1.1 g3.1 g6.1 x1
  exact ⟨r, by unfold fX8_slack; rw [e1, bdS], e2⟩
theorem simHints (hI : Inv K M m) (x1 x2 : Int32) : ∃ r : Int32, fX8_hintsFor M x1 x2 = some (r, M) ∧ fX9_hintsFor m x1 x2 = some r := by
  obtain ⟨a, n, H, L, tx, g1, g2, g3, g4, g5, g6, -⟩ := hI
  obtain ⟨r, e1, e2⟩ := agHints g1.1 g3.1 g6.1 x1 x2
  exact ⟨r, by unfold fX8_hintsFor; rw [e1, bdS], e2⟩
theorem simBusy (hI : Inv K M m) (x1 : Int32) : ∃ r : Int32, fX8_busiest M x1 = some (r, M) ∧ fX9_busiest m x1 = some r := by
  obtain ⟨a, n, H, L, tx, g1, g2, g3, g4, g5, g6, -⟩ := hI
  obtain ⟨r, e1, e2⟩ := agBusy g1.1 g3.1 g6.1 x1
  exact ⟨r, by unfold fX8_busiest; rw [e1, bdS], e2⟩
theorem simClear (hI : Inv K M m) : Sim K (fX8_clearText M) (fX9_clearText m) := by
  obtain ⟨a, n, H, L, tx, g1, g2, g3, g4, g5, g6, g7, g8, g9, g10, g11⟩ := hI
  obtain ⟨S, G, t, u, l, kd⟩ := M
  obtain ⟨s, p, f, n', T, L', R⟩ := m
  have g9 : l = iI L := g9
  have g10 : L' = iI L := g10
  subst g9 g10
  exact ⟨iI L, (S, G, t, u, iI 0, kd), (s, p, f, n', T, iI 0, R), rfl, rfl, a, n, H, 0, tx, g1, g2, g3, g4, g5, g6, g7, by omega, rfl, rfl, fun j j0 j1 => by omega⟩
theorem simAppend (hI : Inv K M m) (x1 : Int32) : Sim K (fX8_append M x1) (fX9_append m x1) := by
  have hI0 := hI
  obtain ⟨a, n, H, L, tx, g1, g2, g3, g4, g5, g6, g7, g8, g9, g10, g11⟩ := hI
  obtain ⟨S, G, t, u, l, kd⟩ := M
  obtain ⟨s, p, f, n', T, L', R⟩ := m
  have g9 : l = iI L := g9
  have g10 : L' = iI L := g10
  subst g9 g10
  obtain ⟨x, rfl, hx1, hx2⟩ := iX x1
  have g11 : ∀ j : Int, 0 ≤ j → j < L → (1 ≤ tx j ∧ tx j ≤ 255) ∧ t j.toNat = iI (tx j) ∧ T j.toNat = iI (tx j) := g11
  by_cases h1 : 1 ≤ x ∧ x ≤ 255
  · by_cases h2 : L < 140
    · refine ⟨iI (L + 1), (S, G, upd t L.toNat (iI x), u, iI (L + 1), kd), (s, p, f, n', upd T L.toNat (iI x), iI (L + 1), R), ?_, ?_, a, n, H, L + 1, up1 tx L x, g1, g2, g3, g4, g5, g6, g7, by omega, rfl, rfl, fun j j0 j1 => ?_⟩
      · clear hI0 g1 g2 g3 g4 g5 g6 g7 g11
        obtain ⟨h1a, h1b⟩ := h1
        obtain ⟨g8a, g8b⟩ := g8
        simp (disch := omega) only [nmD, bdS, b2S, lit32, iA, iS, iM, iN, iLt, iLe, iE, zlT, zlF, zleT, zleF, zeT, zeF, RdI, WrI, DvI, jmaxI, jminI, jabsI, bI0, Zb0, Zb1, ZbI, ↓reduceIte, not_true_eq_false, not_false_eq_true, ite_not, and_true, true_and, and_false, false_and, and_self, fX8_append, fX3_add, xIn]
      · clear hI0 g1 g2 g3 g4 g5 g6 g7 g11
        obtain ⟨h1a, h1b⟩ := h1
        obtain ⟨g8a, g8b⟩ := g8
        simp (disch := omega) only [nmD, bdS, b2S, lit32, iA, iS, iM, iN, iLt, iLe, iE, zlT, zlF, zleT, zleF, zeT, zeF, RdI, WrI, DvI, jmaxI, jminI, jabsI, bI0, Zb0, Zb1, ZbI, ↓reduceIte, not_true_eq_false, not_false_eq_true, ite_not, and_true, true_and, and_false, false_and, and_self, fX9_append, mIn]
      · show (1 ≤ up1 tx L x j ∧ up1 tx L x j ≤ 255) ∧ upd t L.toNat (iI x) j.toNat = iI (up1 tx L x j) ∧ upd T L.toNat (iI x) j.toNat = iI (up1 tx L x j)
        by_cases e : j = L
        · rw [e, up1_s, ud_s, ud_s]
          exact ⟨h1, rfl, rfl⟩
        · rw [up1_n _ _ (by omega), ud_n (by omega), ud_n (by omega)]
          exact g11 j j0 (by omega)
    · refine ⟨iI (-3), _, _, ?_, ?_, hI0⟩
      · clear hI0 g1 g2 g3 g4 g5 g6 g7 g11
        obtain ⟨h1a, h1b⟩ := h1
        obtain ⟨g8a, g8b⟩ := g8
        simp (disch := omega) only [nmD, bdS, b2S, lit32, iA, iS, iM, iN, iLt, iLe, iE, zlT, zlF, zleT, zleF, zeT, zeF, RdI, WrI, DvI, jmaxI, jminI, jabsI, bI0, Zb0, Zb1, ZbI, ↓reduceIte, not_true_eq_false, not_false_eq_true, ite_not, and_true, true_and, and_false, false_and, and_self, fX8_append, fX3_add, xIn]
      · clear hI0 g1 g2 g3 g4 g5 g6 g7 g11
        obtain ⟨h1a, h1b⟩ := h1
        obtain ⟨g8a, g8b⟩ := g8
        simp (disch := omega) only [nmD, bdS, b2S, lit32, iA, iS, iM, iN, iLt, iLe, iE, zlT, zlF, zleT, zleF, zeT, zeF, RdI, WrI, DvI, jmaxI, jminI, jabsI, bI0, Zb0, Zb1, ZbI, ↓reduceIte, not_true_eq_false, not_false_eq_true, ite_not, and_true, true_and, and_false, false_and, and_self, fX9_append, mIn]
  · refine ⟨iI (-1), _, _, ?_, ?_, hI0⟩
    · clear hI0 g1 g2 g3 g4 g5 g6 g7 g11
      simp (disch := omega) only [nmD, bdS, b2S, lit32, iA, iS, iM, iN, iLt, iLe, iE, zlT, zlF, zleT, zleF, zeT, zeF, RdI, WrI, DvI, jmaxI, jminI, jabsI, bI0, Zb0, Zb1, ZbI, ↓reduceIte, not_true_eq_false, not_false_eq_true, ite_not, and_true, true_and, and_false, false_and, and_self, fX8_append, fX3_add, xIn, h1]
    · clear hI0 g1 g2 g3 g4 g5 g6 g7 g11
      simp (disch := omega) only [nmD, bdS, b2S, lit32, iA, iS, iM, iN, iLt, iLe, iE, zlT, zlF, zleT, zleF, zeT, zeF, RdI, WrI, DvI, jmaxI, jminI, jabsI, bI0, Zb0, Zb1, ZbI, ↓reduceIte, not_true_eq_false, not_false_eq_true, ite_not, and_true, true_and, and_false, false_and, and_self, fX9_append, mIn, h1]
theorem simUndo (hI : Inv K M m) : Sim K (fX8_undo M) (fX9_undo m) := by
  have hI0 := hI
  obtain ⟨a, n, H, L, tx, g1, g2, g3, g4, g5, g6, g7, g8, g9, g10, g11⟩ := hI
  obtain ⟨S, G, P⟩ := M
  obtain ⟨s, p, f, n', R⟩ := m
  have g5 : n' = iI n := g5
  subst g5
  have hn := g2.2.1
  have g2 : HX G n H := g2
  by_cases c : n = 0
  · subst c
    refine ⟨iI (-2), (S, G, P), (s, p, f, iI 0, R), ?_, ?_, hI0⟩
    · unfold fX8_undo
      rw [show fX1_stepBack (((S, G, P) : Xm).2.1, ((S, G, P) : Xm).1) = some (iI (-2), (G, S)) from backN g2]
      rfl
    · unfold fX9_undo
      rw [if_pos (show iI 0 = 0 from rfl)]
      rfl
  · have hk : (((n - 1).toNat : Nat) : Int) = n - 1 := by omega
    have hWk := g7 (n - 1).toNat (by omega)
    rw [hk] at hWk
    obtain ⟨now', G', e1, h1, h2⟩ := backX (now := S) g2 (by omega) hWk
    obtain ⟨f', e2, h3⟩ := undoM (s := s) (p := p) (a := f) (R := R) (n := n) (by omega)
    have hSk := g4 (n - 1).toNat (by omega)
    rw [hk] at hSk
    refine ⟨iI (n - 1), (now', G', P), (f', p, f, iI (n - 1), R), ?_, e2, H (n - 1), n - 1, H, L, tx, h2, h1, hSk.cong hWk h3, fun k hk => g4 k (by omega), rfl, hWk, fun k hk => g7 k (by omega), g8, g9, g10, g11⟩
    unfold fX8_undo
    rw [show fX1_stepBack (((S, G, P) : Xm).2.1, ((S, G, P) : Xm).1) = some (iI (n - 1), (G', now')) from e1]
    rfl
set_option maxHeartbeats 2000000 in
theorem simCount (hI : Inv K M m) (x1 : Int32) : ∃ r : Int32, fX8_count M x1 = some (r, M) ∧ fX9_count m x1 = some r := by
  obtain ⟨a, n, H, L, tx, g1, g2, g3, g4, g5, g6, g7, g8, g9, g10, -⟩ := hI
  obtain ⟨x, rfl, hx1, hx2⟩ := iX x1
  have hn := g2.2.1
  have s0 := xSizeR g1.1
  have s1 := xSizeB g1.1
  have s2 := xSizeV g1.1
  have s3 := snapsX g1 g3
  have s4 : fX1_size M.2.1 = some (iI n) := by unfold fX1_size; rw [g2.1]
  have s5 : fX3_size M.2.2 = some (iI L) := by unfold fX3_size; rw [g9]
  have m0 : m.1 0 = iI a.1.nR := g3.1.1
  have m1 : m.1 1 = iI a.1.nB := g3.1.2.1
  have m2 : m.1 2 = iI a.1.nV := g3.1.2.2.1
  have e0 : (0 : Int).toNat = 0 := rfl
  have e1 : (1 : Int).toNat = 1 := rfl
  have e2 : (2 : Int).toNat = 2 := rfl
  have e5 : (517 : Int).toNat = 517 := rfl
  have e6 : (1035 : Int).toNat = 1035 := rfl
  have hNN := g6.1.n
  by_cases c0 : x = 0
  · subst c0
    refine ⟨iI a.1.nR, ?_, ?_⟩
    · clear g1 g2 g3 g4 g6 g7
      simp (disch := omega) only [nmD, bdS, b2S, lit32, iA, iS, iM, iN, iLt, iLe, iE, zlT, zlF, zleT, zleF, zeT, zeF, RdI, WrI, DvI, jmaxI, jminI, jabsI, bI0, Zb0, Zb1, ZbI, ↓reduceIte, not_true_eq_false, not_false_eq_true, ite_not, and_true, true_and, and_false, false_and, and_self, fX8_count, xIn, s0]
    · clear g1 g2 g3 g4 g6 g7
      simp (disch := omega) only [nmD, bdS, b2S, lit32, iA, iS, iM, iN, iLt, iLe, iE, zlT, zlF, zleT, zleF, zeT, zeF, RdI, WrI, DvI, jmaxI, jminI, jabsI, bI0, Zb0, Zb1, ZbI, ↓reduceIte, not_true_eq_false, not_false_eq_true, ite_not, and_true, true_and, and_false, false_and, and_self, fX9_count, fX9_count_j40, e0, m0]
  by_cases c1 : x = 1
  · subst c1
    refine ⟨iI a.1.nB, ?_, ?_⟩
    · clear g1 g2 g3 g4 g6 g7
      simp (disch := omega) only [nmD, bdS, b2S, lit32, iA, iS, iM, iN, iLt, iLe, iE, zlT, zlF, zleT, zleF, zeT, zeF, RdI, WrI, DvI, jmaxI, jminI, jabsI, bI0, Zb0, Zb1, ZbI, ↓reduceIte, not_true_eq_false, not_false_eq_true, ite_not, and_true, true_and, and_false, false_and, and_self, fX8_count, xIn, s1]
    · clear g1 g2 g3 g4 g6 g7
      simp (disch := omega) only [nmD, bdS, b2S, lit32, iA, iS, iM, iN, iLt, iLe, iE, zlT, zlF, zleT, zleF, zeT, zeF, RdI, WrI, DvI, jmaxI, jminI, jabsI, bI0, Zb0, Zb1, ZbI, ↓reduceIte, not_true_eq_false, not_false_eq_true, ite_not, and_true, true_and, and_false, false_and, and_self, fX9_count, fX9_count_j40, e1, m1]
  by_cases c2 : x = 2
  · subst c2
    refine ⟨iI a.1.nV, ?_, ?_⟩
    · clear g1 g2 g3 g4 g6 g7
      simp (disch := omega) only [nmD, bdS, b2S, lit32, iA, iS, iM, iN, iLt, iLe, iE, zlT, zlF, zleT, zleF, zeT, zeF, RdI, WrI, DvI, jmaxI, jminI, jabsI, bI0, Zb0, Zb1, ZbI, ↓reduceIte, not_true_eq_false, not_false_eq_true, ite_not, and_true, true_and, and_false, false_and, and_self, fX8_count, xIn, s2]
    · clear g1 g2 g3 g4 g6 g7
      simp (disch := omega) only [nmD, bdS, b2S, lit32, iA, iS, iM, iN, iLt, iLe, iE, zlT, zlF, zleT, zleF, zeT, zeF, RdI, WrI, DvI, jmaxI, jminI, jabsI, bI0, Zb0, Zb1, ZbI, ↓reduceIte, not_true_eq_false, not_false_eq_true, ite_not, and_true, true_and, and_false, false_and, and_self, fX9_count, fX9_count_j40, e2, m2]
  by_cases c3 : x = 3
  · subst c3
    refine ⟨m.1 517 + m.1 1035, ?_, ?_⟩
    · clear g1 g2 g3 g4 g6 g7
      simp (disch := omega) only [nmD, bdS, b2S, lit32, iA, iS, iM, iN, iLt, iLe, iE, zlT, zlF, zleT, zleF, zeT, zeF, RdI, WrI, DvI, jmaxI, jminI, jabsI, bI0, Zb0, Zb1, ZbI, ↓reduceIte, not_true_eq_false, not_false_eq_true, ite_not, and_true, true_and, and_false, false_and, and_self, fX8_count, xIn, s3]
    · clear g1 g2 g3 g4 g6 g7 s3
      simp (disch := omega) only [nmD, bdS, b2S, lit32, iA, iS, iM, iN, iLt, iLe, iE, zlT, zlF, zleT, zleF, zeT, zeF, RdI, WrI, DvI, jmaxI, jminI, jabsI, bI0, Zb0, Zb1, ZbI, ↓reduceIte, not_true_eq_false, not_false_eq_true, ite_not, and_true, true_and, and_false, false_and, and_self, fX9_count, e5, e6]
  by_cases c4 : x = 4
  · subst c4
    refine ⟨iI n, ?_, ?_⟩
    · clear g1 g2 g3 g4 g6 g7
      simp (disch := omega) only [nmD, bdS, b2S, lit32, iA, iS, iM, iN, iLt, iLe, iE, zlT, zlF, zleT, zleF, zeT, zeF, RdI, WrI, DvI, jmaxI, jminI, jabsI, bI0, Zb0, Zb1, ZbI, ↓reduceIte, not_true_eq_false, not_false_eq_true, ite_not, and_true, true_and, and_false, false_and, and_self, fX8_count, xIn, s4]
    · clear g1 g2 g3 g4 g6 g7
      simp (disch := omega) only [nmD, bdS, b2S, lit32, iA, iS, iM, iN, iLt, iLe, iE, zlT, zlF, zleT, zleF, zeT, zeF, RdI, WrI, DvI, jmaxI, jminI, jabsI, bI0, Zb0, Zb1, ZbI, ↓reduceIte, not_true_eq_false, not_false_eq_true, ite_not, and_true, true_and, and_false, false_and, and_self, fX9_count, g5]
  by_cases c5 : x = 5
  · subst c5
    refine ⟨iI L, ?_, ?_⟩
    · clear g1 g2 g3 g4 g6 g7
      simp (disch := omega) only [nmD, bdS, b2S, lit32, iA, iS, iM, iN, iLt, iLe, iE, zlT, zlF, zleT, zleF, zeT, zeF, RdI, WrI, DvI, jmaxI, jminI, jabsI, bI0, Zb0, Zb1, ZbI, ↓reduceIte, not_true_eq_false, not_false_eq_true, ite_not, and_true, true_and, and_false, false_and, and_self, fX8_count, xIn, s5]
    · clear g1 g2 g3 g4 g6 g7
      simp (disch := omega) only [nmD, bdS, b2S, lit32, iA, iS, iM, iN, iLt, iLe, iE, zlT, zlF, zleT, zleF, zeT, zeF, RdI, WrI, DvI, jmaxI, jminI, jabsI, bI0, Zb0, Zb1, ZbI, ↓reduceIte, not_true_eq_false, not_false_eq_true, ite_not, and_true, true_and, and_false, false_and, and_self, fX9_count, g10]
  by_cases c6 : 6 ≤ x ∧ x ≤ 10
  · obtain ⟨c6a, c6b⟩ := c6
    have t1 := xset g1.1 (k := x - 6) (by omega) (by omega)
    have t2 : m.1 (4 + x - 6).toNat = iI (a.1.S (x - 6)) := by
      have := g3.1.2.2.2.2.1 (x - 6) (by omega) (by omega)
      rwa [show 4 + (x - 6) = 4 + x - 6 by omega] at this
    refine ⟨iI (a.1.S (x - 6)), ?_, ?_⟩
    · clear g1 g2 g3 g4 g6 g7
      simp (disch := omega) only [nmD, bdS, b2S, lit32, iA, iS, iM, iN, iLt, iLe, iE, zlT, zlF, zleT, zleF, zeT, zeF, RdI, WrI, DvI, jmaxI, jminI, jabsI, bI0, Zb0, Zb1, ZbI, ↓reduceIte, not_true_eq_false, not_false_eq_true, ite_not, and_true, true_and, and_false, false_and, and_self, fX8_count, xIn, t1]
    · clear g1 g2 g3 g4 g6 g7
      simp (disch := omega) only [nmD, bdS, b2S, lit32, iA, iS, iM, iN, iLt, iLe, iE, zlT, zlF, zleT, zleF, zeT, zeF, RdI, WrI, DvI, jmaxI, jminI, jabsI, bI0, Zb0, Zb1, ZbI, ↓reduceIte, not_true_eq_false, not_false_eq_true, ite_not, and_true, true_and, and_false, false_and, and_self, fX9_count, mIn, t2, fX9_count_j123]
  by_cases c7 : 11 ≤ x ∧ x ≤ 14
  · obtain ⟨c7a, c7b⟩ := c7
    have t1 := xCst g1.1 g6.1 (x := x - 11) (by omega)
    have t2 := mCst (M := m) g3.1 g6.1 (x := x - 11) (by omega)
    refine ⟨iI (cst a.1 (x - 11)), ?_, ?_⟩
    · clear g1 g2 g3 g4 g6 g7
      simp (disch := omega) only [nmD, bdS, b2S, lit32, iA, iS, iM, iN, iLt, iLe, iE, zlT, zlF, zleT, zleF, zeT, zeF, RdI, WrI, DvI, jmaxI, jminI, jabsI, bI0, Zb0, Zb1, ZbI, ↓reduceIte, not_true_eq_false, not_false_eq_true, ite_not, and_true, true_and, and_false, false_and, and_self, fX8_count, xIn, t1]
    · clear g1 g2 g3 g4 g6 g7
      simp (disch := omega) only [nmD, bdS, b2S, lit32, iA, iS, iM, iN, iLt, iLe, iE, zlT, zlF, zleT, zleF, zeT, zeF, RdI, WrI, DvI, jmaxI, jminI, jabsI, bI0, Zb0, Zb1, ZbI, ↓reduceIte, not_true_eq_false, not_false_eq_true, ite_not, and_true, true_and, and_false, false_and, and_self, fX9_count, mIn, t2, fX9_count_j123]
  refine ⟨iI (-1), ?_, ?_⟩
  · clear g1 g2 g3 g4 g6 g7
    simp (disch := omega) only [nmD, bdS, b2S, lit32, iA, iS, iM, iN, iLt, iLe, iE, zlT, zlF, zleT, zleF, zeT, zeF, RdI, WrI, DvI, jmaxI, jminI, jabsI, bI0, Zb0, Zb1, ZbI, ↓reduceIte, not_true_eq_false, not_false_eq_true, ite_not, and_true, true_and, and_false, false_and, and_self, fX8_count, xIn, c6, c7]
  · clear g1 g2 g3 g4 g6 g7
    simp (disch := omega) only [nmD, bdS, b2S, lit32, iA, iS, iM, iN, iLt, iLe, iE, zlT, zlF, zleT, zleF, zeT, zeF, RdI, WrI, DvI, jmaxI, jminI, jabsI, bI0, Zb0, Zb1, ZbI, ↓reduceIte, not_true_eq_false, not_false_eq_true, ite_not, and_true, true_and, and_false, false_and, and_self, fX9_count, mIn, c6, c7, fX9_count_j123]
end RD
