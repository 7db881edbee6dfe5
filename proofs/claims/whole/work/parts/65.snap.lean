/-! Snapshots. -/
section SN
variable {A : Ab} {K : Int}
theorem keepX {V : Vn} (h : RepX V A) (hW : WF K A) (sl : Int32 × Vn) : ∃ V1 : Vn, fX4_keep (sl, V) = some ((iI 1, V1), V) ∧ RepX V1 A := by
  obtain ⟨V1, e, h1⟩ := copyV (V1 := sl.2) h hW
  refine ⟨V1, ?_, h1⟩
  unfold fX4_keep
  rw [show fX7_copyFrom (((sl, V) : (Int32 × Vn) × Vn).1.2, ((sl, V) : (Int32 × Vn) × Vn).2) = some (V1, V) from e]
  rfl
theorem takeL {b : Int} (hb : 517 ≤ b) (hb2 : b ≤ 1035) {R : Rs} : ∀ (k fu : Nat) (z : Int) (s : Nat → Int32), 0 ≤ z → z + k = 517 → k < fu → ∃ s' : Nat → Int32, (fX9_take_l34 (iI b) fu (s, R) (iI z) = Rd s' 1553 (iI 3) fun v8 => b2 (fX9_ends (s', R) v8) fun r10 M9 => some (r10, M9)) ∧ (∀ j : Int, z ≤ j → j < 517 → s' (b + 1 + j).toNat = s j.toNat) ∧ ∀ j : Int, 0 ≤ j → (j < b + 1 + z ∨ b + 518 ≤ j) → s' j.toNat = s j.toNat := by
  intro k
  induction k with
  | zero =>
    intro fu z s h0 h1 h2
    obtain ⟨fu, rfl⟩ : ∃ q, fu = q + 1 := ⟨fu - 1, by omega⟩
    refine ⟨s, ?_, fun j j0 j1 => by omega, fun _ _ _ => rfl⟩
    rw [fX9_take_l34_s]
    simp (disch := omega) only [nmD, bdS, b2S, lit32, iA, iS, iM, iN, iLt, iLe, iE, zlT, zlF, zleT, zleF, zeT, zeF, RdI, WrI, DvI, jmaxI, jminI, jabsI, bI0, Zb0, Zb1, ZbI, ↓reduceIte, not_true_eq_false, not_false_eq_true, ite_not, and_true, true_and, and_false, false_and, and_self]
  | succ k ih =>
    intro fu z s h0 h1 h2
    obtain ⟨fu, rfl⟩ : ∃ q, fu = q + 1 := ⟨fu - 1, by omega⟩
    obtain ⟨s', f1, f2, f3⟩ := ih fu (z + 1) (upd s (b + 1 + z).toNat (s z.toNat)) (by omega) (by omega) (by omega)
    refine ⟨s', ?_, fun j j0 j1 => ?_, fun j j0 j1 => by rw [f3 j j0 (by omega)]; exact ud_n (by omega)⟩
    · rw [fX9_take_l34_s, ← f1]
      clear ih f1 f2 f3
      simp (disch := omega) only [nmD, bdS, b2S, lit32, iA, iS, iM, iN, iLt, iLe, iE, zlT, zlF, zleT, zleF, zeT, zeF, RdI, WrI, DvI, jmaxI, jminI, jabsI, bI0, Zb0, Zb1, ZbI, ↓reduceIte, not_true_eq_false, not_false_eq_true, ite_not, and_true, true_and, and_false, false_and, and_self]
    · by_cases e : j = z
      · rw [e, f3 _ (by omega) (by omega)]
        exact ud_s
      · rw [f2 j (by omega) j1]
        exact ud_n (by omega)
theorem restL {b : Int} (hb : 517 ≤ b) (hb2 : b ≤ 1035) {R : Rs} : ∀ (k fu : Nat) (z : Int) (s : Nat → Int32), 0 ≤ z → z + k = 517 → k < fu → ∃ s' : Nat → Int32, (fX9_restore_l39 (iI b) fu (s, R) (iI z) = Rd s' 1553 (iI 3) fun v8 => b2 (fX9_ends (s', R) v8) fun r10 M9 => some (r10, M9)) ∧ (∀ j : Int, z ≤ j → j < 517 → s' j.toNat = s (b + 1 + j).toNat) ∧ ∀ j : Int, 0 ≤ j → (j < z ∨ 517 ≤ j) → s' j.toNat = s j.toNat := by
  intro k
  induction k with
  | zero =>
    intro fu z s h0 h1 h2
    obtain ⟨fu, rfl⟩ : ∃ q, fu = q + 1 := ⟨fu - 1, by omega⟩
    refine ⟨s, ?_, fun j j0 j1 => by omega, fun _ _ _ => rfl⟩
    rw [fX9_restore_l39_s]
    simp (disch := omega) only [nmD, bdS, b2S, lit32, iA, iS, iM, iN, iLt, iLe, iE, zlT, zlF, zleT, zleF, zeT, zeF, RdI, WrI, DvI, jmaxI, jminI, jabsI, bI0, Zb0, Zb1, ZbI, ↓reduceIte, not_true_eq_false, not_false_eq_true, ite_not, and_true, true_and, and_false, false_and, and_self]
  | succ k ih =>
    intro fu z s h0 h1 h2
    obtain ⟨fu, rfl⟩ : ∃ q, fu = q + 1 := ⟨fu - 1, by omega⟩
    obtain ⟨s', f1, f2, f3⟩ := ih fu (z + 1) (upd s z.toNat (s (b + 1 + z).toNat)) (by omega) (by omega) (by omega)
    refine ⟨s', ?_, fun j j0 j1 => ?_, fun j j0 j1 => by rw [f3 j j0 (by omega)]; exact ud_n (by omega)⟩
    · rw [fX9_restore_l39_s, ← f1]
      clear ih f1 f2 f3
      simp (disch := omega) only [nmD, bdS, b2S, lit32, iA, iS, iM, iN, iLt, iLe, iE, zlT, zlF, zleT, zleF, zeT, zeF, RdI, WrI, DvI, jmaxI, jminI, jabsI, bI0, Zb0, Zb1, ZbI, ↓reduceIte, not_true_eq_false, not_false_eq_true, ite_not, and_true, true_and, and_false, false_and, and_self]
    · by_cases e : j = z
      · rw [e, f3 _ (by omega) (by omega)]
        exact ud_s
      · rw [f2 j (by omega) j1]
        exact ud_n (by omega)
/-- the end of both: an answer, recorded or not -/
theorem simEnd {S' : Sn} {G : Hg} {P : Pg} {s' p g : Nat → Int32} {T : Nat → Int32} {l : Int32} {R : Int32 × Int32 × Int64 × (Nat → Int32)} {r : Int32} {a a' : FS} {n L : Int} {H : Int → FS} {tx : Int → Int} (h1 : HX G n H) (h2 : StX (G.2.2 (G.2.1 n.toNat)) a) (hH : HM p n H) (hHW : ∀ k : Nat, (k : Int) < n → WFS K (H k)) (hg : StM g a) (haW : WFS K a) (hS : StX S' a') (hs : StM s' a') (hW : WFS K a') (hL : 0 ≤ L ∧ L ≤ 140) (hl : l = iI L) (hP : P.2.2.1 = iI L) (ht : ∀ j : Int, 0 ≤ j → j < L → (1 ≤ tx j ∧ tx j ≤ 255) ∧ P.1 j.toNat = iI (tx j) ∧ T j.toNat = iI (tx j)) : Sim K (b2 (fX1_settle G r) fun r7 M6 => some (r7, (S', M6, P))) (b2 (fX9_ends (s', p, g, iI n, T, l, R) r) fun r5 M4 => some (r5, M4)) := by
  subst hl
  by_cases c : r < 0
  · refine ⟨r, (S', G, P), (s', p, g, iI n, T, iI L, R), by rw [settleN c, b2S], by rw [endsN c, b2S], a', n, H, L, tx, hS, h1, hs, hH, rfl, hW, hHW, hL, hP, rfl, ht⟩
  · obtain ⟨G', e1, h3⟩ := settleX h1 h2 c
    obtain ⟨q, e2, h4⟩ := endsM (s := s') (R := (T, iI L, R)) h1.2.1 hH hHW hg haW c
    exact ⟨r, (S', G', P), (s', q, g, iI (nNext n), T, iI L, R), by rw [e1, b2S], by rw [e2, b2S], a', nNext n, hNext n H a, L, tx, hS, h3, hs, h4, rfl, hW, hNext_W h1.2.1 hHW haW, hL, hP, rfl, ht⟩
end SN
section TK
variable {M : Xm} {m : Md} {K : Int}
set_option maxHeartbeats 2000000 in
theorem simTake (hI : Inv K M m) (x1 : Int32) : Sim K (fX8_take M x1) (fX9_take m x1) := by
  have hI0 := hI
  obtain ⟨a, n, H, L, tx, g1, g2, g3, g4, g5, g6, g7, g8, g9, g10, g11⟩ := hI
  obtain ⟨S, G, P⟩ := M
  obtain ⟨s, p, f, n', T, l, R⟩ := m
  have g5 : n' = iI n := g5
  subst g5
  have g1 : StX S a := g1
  have g2 : HX G n H := g2
  have g3 : StM s a := g3
  have g4 : HM p n H := g4
  obtain ⟨x, rfl, hx1, hx2⟩ := iX x1
  by_cases h1 : 0 ≤ x ∧ x ≤ 1
  · obtain ⟨h1a, h1b⟩ := h1
    have hl16 := g6.1.l16
    obtain ⟨G', e1, e2, e3⟩ := prepX g2 g1 g6
    obtain ⟨g, c1, c2⟩ := holdM (s := s) (p := p) (a := f) (R := (iI n, T, l, R))
    obtain ⟨s', f1, f2, f3⟩ := takeL (b := 517 + 518 * x) (by omega) (by omega) (R := (p, g, iI n, T, l, R)) 517 FU 0 (upd s (517 + 518 * x).toNat (iI 1)) (by omega) (by omega) (by unfold FU; omega)
    have ft : s' 3 = iI a.1.t := by
      have := f3 3 (by omega) (by omega)
      rw [show (3 : Int).toNat = 3 from rfl, ud_n (by omega)] at this
      exact this.trans g3.1.2.2.2.1
    have e33 : (3 : Int).toNat = 3 := rfl
    have em : fX9_take (s, p, f, iI n, T, l, R) (iI x) = b2 (fX9_ends (s', p, g, iI n, T, l, R) (iI a.1.t)) fun r5 M4 => some (r5, M4) := by
      clear f2 f3 c2 e1 e2 e3 g1 g2 g3 g4 g6 g7 g8 g9 g10 g11 hI0 hl16
      simp (disch := omega) only [nmD, bdS, b2S, lit32, iA, iS, iM, iN, iLt, iLe, iE, zlT, zlF, zleT, zleF, zeT, zeF, RdI, WrI, DvI, jmaxI, jminI, jabsI, bI0, Zb0, Zb1, ZbI, ↓reduceIte, not_true_eq_false, not_false_eq_true, ite_not, and_true, true_and, and_false, false_and, and_self, fX9_take, mIn, c1, f1, e33, ft]
    have hT : S.1.2.2.2.2.2 = iI a.1.t := g1.1.T
    have hg : StM g a := g3.cong g6 c2
    have hnow : RepM s' a.1 := RepM.cong g3.1 hl16.1 hl16.2 (fun k hk => by
      have := f3 k (by omega) (by omega)
      rw [show ((k : Int)).toNat = k by omega, ud_n (by omega)] at this
      exact this)
    have hsnap : RepM (fun k => s' ((517 + 518 * x).toNat + 1 + k)) a.1 := RepM.cong g3.1 hl16.1 hl16.2 (fun k hk => by
      have := f2 k (by omega) (by omega)
      rw [show ((k : Int)).toNat = k by omega, ud_n (by omega), show (517 + 518 * x + 1 + (k : Int)).toNat = (517 + 518 * x).toNat + 1 + k by omega] at this
      exact this)
    have htk : s' (517 + 518 * x).toNat = iI 1 := by
      rw [f3 _ (by omega) (by omega)]
      exact ud_s
    by_cases c : x = 0
    · subst c
      obtain ⟨V1, k1, k2⟩ := keepX g1.1 g6.1 S.2.1
      have hS' : StX (S.1, (iI 1, V1), S.2.2) (a.1, some a.1, a.2.2) := ⟨g1.1, ⟨rfl, k2⟩, g1.2.2⟩
      have hM' : StM s' (a.1, some a.1, a.2.2) := ⟨hnow, ⟨htk, hsnap⟩, g3.2.2.cong g6.2.2 (fun k k1 k2 => by
        have := f3 k (by omega) (by omega)
        rw [show ((k : Int)).toNat = k by omega, ud_n (by omega)] at this
        exact this)⟩
      have ex : fX8_take (S, G, P) (iI 0) = b2 (fX1_settle G' (iI a.1.t)) fun r7 M6 => some (r7, ((S.1, (iI 1, V1), S.2.2), M6, P)) := by
        clear f1 f2 f3 c1 c2 e2 e3 g2 g3 g4 g6 g7 g8 g9 g10 g11 hI0 em hnow hsnap htk hM' hS' hg g1 ft
        simp (disch := omega) only [nmD, bdS, b2S, lit32, iA, iS, iM, iN, iLt, iLe, iE, zlT, zlF, zleT, zleF, zeT, zeF, RdI, WrI, DvI, jmaxI, jminI, jabsI, bI0, Zb0, Zb1, ZbI, ↓reduceIte, not_true_eq_false, not_false_eq_true, ite_not, and_true, true_and, and_false, false_and, and_self, fX8_take, xIn, e1, k1, hT]
      rw [ex, em]
      exact simEnd e2 e3 g4 g7 hg g6 hS' hM' ⟨g6.1, g6.1, g6.2.2⟩ g8 g10 g9 g11
    · have c : x = 1 := by omega
      subst c
      obtain ⟨V1, k1, k2⟩ := keepX g1.1 g6.1 S.2.2
      have hS' : StX (S.1, S.2.1, (iI 1, V1)) (a.1, a.2.1, some a.1) := ⟨g1.1, g1.2.1, ⟨rfl, k2⟩⟩
      have hM' : StM s' (a.1, a.2.1, some a.1) := ⟨hnow, g3.2.1.cong g6.2.1 (fun k k1 k2 => by
        have := f3 k (by omega) (by omega)
        rw [show ((k : Int)).toNat = k by omega, ud_n (by omega)] at this
        exact this), ⟨htk, hsnap⟩⟩
      have ex : fX8_take (S, G, P) (iI 1) = b2 (fX1_settle G' (iI a.1.t)) fun r7 M6 => some (r7, ((S.1, S.2.1, (iI 1, V1)), M6, P)) := by
        clear f1 f2 f3 c1 c2 e2 e3 g2 g3 g4 g6 g7 g8 g9 g10 g11 hI0 em hnow hsnap htk hM' hS' hg g1 ft
        simp (disch := omega) only [nmD, bdS, b2S, lit32, iA, iS, iM, iN, iLt, iLe, iE, zlT, zlF, zleT, zleF, zeT, zeF, RdI, WrI, DvI, jmaxI, jminI, jabsI, bI0, Zb0, Zb1, ZbI, ↓reduceIte, not_true_eq_false, not_false_eq_true, ite_not, and_true, true_and, and_false, false_and, and_self, fX8_take, xIn, e1, k1, hT]
      rw [ex, em]
      exact simEnd e2 e3 g4 g7 hg g6 hS' hM' ⟨g6.1, g6.2.1, g6.1⟩ g8 g10 g9 g11
  · refine ⟨iI (-1), _, _, ?_, ?_, hI0⟩
    · clear hI0 g1 g2 g3 g4 g6 g7 g11
      simp (disch := omega) only [nmD, bdS, b2S, lit32, iA, iS, iM, iN, iLt, iLe, iE, zlT, zlF, zleT, zleF, zeT, zeF, RdI, WrI, DvI, jmaxI, jminI, jabsI, bI0, Zb0, Zb1, ZbI, ↓reduceIte, not_true_eq_false, not_false_eq_true, ite_not, and_true, true_and, and_false, false_and, and_self, fX8_take, xIn, h1]
    · clear hI0 g1 g2 g3 g4 g6 g7 g11
      simp (disch := omega) only [nmD, bdS, b2S, lit32, iA, iS, iM, iN, iLt, iLe, iE, zlT, zlF, zleT, zleF, zeT, zeF, RdI, WrI, DvI, jmaxI, jminI, jabsI, bI0, Zb0, Zb1, ZbI, ↓reduceIte, not_true_eq_false, not_false_eq_true, ite_not, and_true, true_and, and_false, false_and, and_self, fX9_take, mIn, h1]
set_option maxHeartbeats 2000000 in
theorem simRestore (hI : Inv K M m) (x1 : Int32) : Sim K (fX8_restore M x1) (fX9_restore m x1) := by
  have hI0 := hI
  obtain ⟨a, n, H, L, tx, g1, g2, g3, g4, g5, g6, g7, g8, g9, g10, g11⟩ := hI
  obtain ⟨S, G, P⟩ := M
  obtain ⟨s, p, f, n', T, l, R⟩ := m
  have g5 : n' = iI n := g5
  subst g5
  have g1 : StX S a := g1
  have g2 : HX G n H := g2
  have g3 : StM s a := g3
  have g4 : HM p n H := g4
  obtain ⟨x, rfl, hx1, hx2⟩ := iX x1
  have e33 : (3 : Int).toNat = 3 := rfl
  -- the reference, where the slot is taken
  have hm : ∀ A1 : Ab, (x = 0 ∨ x = 1) → s (517 + 518 * x).toNat = iI 1 → RepM (fun k => s ((517 + 518 * x).toNat + 1 + k)) A1 → WF K A1 → ∃ s' g : Nat → Int32, fX9_restore (s, p, f, iI n, T, l, R) (iI x) = (b2 (fX9_ends (s', p, g, iI n, T, l, R) (iI A1.t)) fun r5 M4 => some (r5, M4)) ∧ StM g a ∧ StM s' (A1, a.2) := by
    intro A1 hx hs1 hsn hW1
    have hl16 := hW1.l16
    obtain ⟨g, c1, c2⟩ := holdM (s := s) (p := p) (a := f) (R := (iI n, T, l, R))
    obtain ⟨s', f1, f2, f3⟩ := restL (b := 517 + 518 * x) (by omega) (by omega) (R := (p, g, iI n, T, l, R)) 517 FU 0 s (by omega) (by omega) (by unfold FU; omega)
    have hnow : RepM s' A1 := RepM.cong hsn hl16.1 hl16.2 (fun k hk => by
      have := f2 k (by omega) (by omega)
      rw [show ((k : Int)).toNat = k by omega, show (517 + 518 * x + 1 + (k : Int)).toNat = (517 + 518 * x).toNat + 1 + k by omega] at this
      exact this)
    have ft : s' 3 = iI A1.t := hnow.2.2.2.1
    refine ⟨s', g, ?_, g3.cong g6 c2, hnow, g3.2.1.cong g6.2.1 (fun k k1 k2 => ?_), g3.2.2.cong g6.2.2 (fun k k1 k2 => ?_)⟩
    · clear f2 f3 c2 g1 g2 g3 g4 g6 g7 g8 g9 g10 g11 hI0 hl16 hnow hsn
      rcases hx with rfl | rfl
      · simp (disch := omega) only [nmD, bdS, b2S, lit32, iA, iS, iM, iN, iLt, iLe, iE, zlT, zlF, zleT, zleF, zeT, zeF, RdI, WrI, DvI, jmaxI, jminI, jabsI, bI0, Zb0, Zb1, ZbI, ↓reduceIte, not_true_eq_false, not_false_eq_true, ite_not, and_true, true_and, and_false, false_and, and_self, fX9_restore, mIn, hs1, c1, f1, e33, ft]
      · simp (disch := omega) only [nmD, bdS, b2S, lit32, iA, iS, iM, iN, iLt, iLe, iE, zlT, zlF, zleT, zleF, zeT, zeF, RdI, WrI, DvI, jmaxI, jminI, jabsI, bI0, Zb0, Zb1, ZbI, ↓reduceIte, not_true_eq_false, not_false_eq_true, ite_not, and_true, true_and, and_false, false_and, and_self, fX9_restore, mIn, hs1, c1, f1, e33, ft]
    · have := f3 k (by omega) (by omega)
      rw [show ((k : Int)).toNat = k by omega] at this
      exact this
    · have := f3 k (by omega) (by omega)
      rw [show ((k : Int)).toNat = k by omega] at this
      exact this
  by_cases c0 : x = 0
  · subst c0
    cases ho : a.2.1 with
    | none =>
      have q1 : S.2.1.1 = iI 0 := by have := g1.2.1; rw [ho] at this; exact this
      have q2 : s (517 + 518 * 0 : Int).toNat = iI 0 := by have := g3.2.1; rw [ho] at this; exact this
      refine ⟨iI (-2), _, _, ?_, ?_, hI0⟩
      · clear hI0 hm g1 g2 g3 g4 g6 g7 g11
        simp (disch := omega) only [nmD, bdS, b2S, lit32, iA, iS, iM, iN, iLt, iLe, iE, zlT, zlF, zleT, zleF, zeT, zeF, RdI, WrI, DvI, jmaxI, jminI, jabsI, bI0, Zb0, Zb1, ZbI, ↓reduceIte, not_true_eq_false, not_false_eq_true, ite_not, and_true, true_and, and_false, false_and, and_self, fX8_restore, xIn, q1]
      · clear hI0 hm g1 g2 g3 g4 g6 g7 g11
        simp (disch := omega) only [nmD, bdS, b2S, lit32, iA, iS, iM, iN, iLt, iLe, iE, zlT, zlF, zleT, zleF, zeT, zeF, RdI, WrI, DvI, jmaxI, jminI, jabsI, bI0, Zb0, Zb1, ZbI, ↓reduceIte, not_true_eq_false, not_false_eq_true, ite_not, and_true, true_and, and_false, false_and, and_self, fX9_restore, mIn, q2]
    | some A1 =>
      have q1 : S.2.1.1 = iI 1 ∧ RepX S.2.1.2 A1 := by have := g1.2.1; rw [ho] at this; exact this
      have q2 : s (517 + 518 * 0 : Int).toNat = iI 1 ∧ RepM (fun k => s ((517 + 518 * 0 : Int).toNat + 1 + k)) A1 := by have := g3.2.1; rw [ho] at this; exact this
      have q3 : WF K A1 := by have := g6.2.1; rw [ho] at this; exact this
      obtain ⟨s', g, em, hg, hM'⟩ := hm A1 (Or.inl rfl) q2.1 q2.2 q3
      obtain ⟨G', e1, e2, e3⟩ := prepX g2 g1 g6
      obtain ⟨V1, k1, k2⟩ := copyV (V1 := S.1) q1.2 q3
      have hT : V1.2.2.2.2.2 = iI A1.t := k2.T
      have q11 := q1.1
      have hS' : StX (V1, (iI 1, S.2.1.2), S.2.2) (A1, a.2) := ⟨k2, by show SlX (iI 1, S.2.1.2) a.2.1; rw [ho]; exact ⟨rfl, q1.2⟩, g1.2.2⟩
      have hW' : WFS K (A1, a.2) := ⟨q3, g6.2⟩
      have ex : fX8_restore (S, G, P) (iI 0) = b2 (fX1_settle G' (iI A1.t)) fun r7 M6 => some (r7, ((V1, (iI 1, S.2.1.2), S.2.2), M6, P)) := by
        clear hI0 hm g1 g2 g3 g4 g6 g7 g11 q2 e2 e3 em hg hM' k2 q1 hS' hW'
        simp (disch := omega) only [nmD, bdS, b2S, lit32, iA, iS, iM, iN, iLt, iLe, iE, zlT, zlF, zleT, zleF, zeT, zeF, RdI, WrI, DvI, jmaxI, jminI, jabsI, bI0, Zb0, Zb1, ZbI, ↓reduceIte, not_true_eq_false, not_false_eq_true, ite_not, and_true, true_and, and_false, false_and, and_self, fX8_restore, xIn, q11, e1, k1, hT]
      rw [ex, em]
      exact simEnd e2 e3 g4 g7 hg g6 hS' hM' hW' g8 g10 g9 g11
  by_cases c1 : x = 1
  · subst c1
    cases ho : a.2.2 with
    | none =>
      have q1 : S.2.2.1 = iI 0 := by have := g1.2.2; rw [ho] at this; exact this
      have q2 : s (517 + 518 * 1 : Int).toNat = iI 0 := by have := g3.2.2; rw [ho] at this; exact this
      refine ⟨iI (-2), _, _, ?_, ?_, hI0⟩
      · clear hI0 hm g1 g2 g3 g4 g6 g7 g11
        simp (disch := omega) only [nmD, bdS, b2S, lit32, iA, iS, iM, iN, iLt, iLe, iE, zlT, zlF, zleT, zleF, zeT, zeF, RdI, WrI, DvI, jmaxI, jminI, jabsI, bI0, Zb0, Zb1, ZbI, ↓reduceIte, not_true_eq_false, not_false_eq_true, ite_not, and_true, true_and, and_false, false_and, and_self, fX8_restore, xIn, q1]
      · clear hI0 hm g1 g2 g3 g4 g6 g7 g11
        simp (disch := omega) only [nmD, bdS, b2S, lit32, iA, iS, iM, iN, iLt, iLe, iE, zlT, zlF, zleT, zleF, zeT, zeF, RdI, WrI, DvI, jmaxI, jminI, jabsI, bI0, Zb0, Zb1, ZbI, ↓reduceIte, not_true_eq_false, not_false_eq_true, ite_not, and_true, true_and, and_false, false_and, and_self, fX9_restore, mIn, q2]
    | some A1 =>
      have q1 : S.2.2.1 = iI 1 ∧ RepX S.2.2.2 A1 := by have := g1.2.2; rw [ho] at this; exact this
      have q2 : s (517 + 518 * 1 : Int).toNat = iI 1 ∧ RepM (fun k => s ((517 + 518 * 1 : Int).toNat + 1 + k)) A1 := by have := g3.2.2; rw [ho] at this; exact this
      have q3 : WF K A1 := by have := g6.2.2; rw [ho] at this; exact this
      obtain ⟨s', g, em, hg, hM'⟩ := hm A1 (Or.inr rfl) q2.1 q2.2 q3
      obtain ⟨G', e1, e2, e3⟩ := prepX g2 g1 g6
      obtain ⟨V1, k1, k2⟩ := copyV (V1 := S.1) q1.2 q3
      have hT : V1.2.2.2.2.2 = iI A1.t := k2.T
      have q11 := q1.1
      have hS' : StX (V1, S.2.1, (iI 1, S.2.2.2)) (A1, a.2) := ⟨k2, g1.2.1, by show SlX (iI 1, S.2.2.2) a.2.2; rw [ho]; exact ⟨rfl, q1.2⟩⟩
      have hW' : WFS K (A1, a.2) := ⟨q3, g6.2⟩
      have ex : fX8_restore (S, G, P) (iI 1) = b2 (fX1_settle G' (iI A1.t)) fun r7 M6 => some (r7, ((V1, S.2.1, (iI 1, S.2.2.2)), M6, P)) := by
        clear hI0 hm g1 g2 g3 g4 g6 g7 g11 q2 e2 e3 em hg hM' k2 q1 hS' hW'
        simp (disch := omega) only [nmD, bdS, b2S, lit32, iA, iS, iM, iN, iLt, iLe, iE, zlT, zlF, zleT, zleF, zeT, zeF, RdI, WrI, DvI, jmaxI, jminI, jabsI, bI0, Zb0, Zb1, ZbI, ↓reduceIte, not_true_eq_false, not_false_eq_true, ite_not, and_true, true_and, and_false, false_and, and_self, fX8_restore, xIn, q11, e1, k1, hT]
      rw [ex, em]
      exact simEnd e2 e3 g4 g7 hg g6 hS' hM' hW' g8 g10 g9 g11
  have h1 : ¬ (0 ≤ x ∧ x ≤ 1) := by omega
  refine ⟨iI (-1), _, _, ?_, ?_, hI0⟩
  · clear hI0 hm g1 g2 g3 g4 g6 g7 g11
    simp (disch := omega) only [nmD, bdS, b2S, lit32, iA, iS, iM, iN, iLt, iLe, iE, zlT, zlF, zleT, zleF, zeT, zeF, RdI, WrI, DvI, jmaxI, jminI, jabsI, bI0, Zb0, Zb1, ZbI, ↓reduceIte, not_true_eq_false, not_false_eq_true, ite_not, and_true, true_and, and_false, false_and, and_self, fX8_restore, xIn, h1]
  · clear hI0 hm g1 g2 g3 g4 g6 g7 g11
    simp (disch := omega) only [nmD, bdS, b2S, lit32, iA, iS, iM, iN, iLt, iLe, iE, zlT, zlF, zleT, zleF, zeT, zeF, RdI, WrI, DvI, jmaxI, jminI, jabsI, bI0, Zb0, Zb1, ZbI, ↓reduceIte, not_true_eq_false, not_false_eq_true, ite_not, and_true, true_and, and_false, false_and, and_self, fX9_restore, mIn, h1]
end TK
