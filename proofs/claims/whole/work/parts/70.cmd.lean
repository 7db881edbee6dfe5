/-! The numbers of a command, and its call, on both sides. -/
section NB
variable {tx : Int → Int} {L : Int} {t T s p a : Nat → Int32} {n : Int32}
theorem numsBoth (ht : Tx tx L t) (hT : Tx tx L T) (hL : 0 ≤ L ∧ L ≤ 140) {nn : Int} (hn : 0 ≤ nn ∧ nn ≤ 4) (x1 : Int32) (w : Int64) : ∀ (m f1 f2 : Nat) (k e : Int) (u1 u2 : Nat → Int32) (k0 st st2 : Int32), 0 ≤ k → k + m = nn → m < f1 → m < f2 → 0 ≤ e → e ≤ L → (∀ j : Nat, (j : Int) < k → u1 j = u2 j) → (∃ (e' : Int) (u1' u2' : Nat → Int32) (k0' st' st2' : Int32), (∀ kk : Pg → Option (Int32 × Pg), fX3_readNumbers_l24 (iI nn) kk f1 (t, u1, iI L, k0, st, iI e) (iI k) = kk (t, u1', iI L, k0', st', iI e')) ∧ (∀ kk : Md → Option (Int32 × Md), fX9_isDone_l24 x1 (iI nn) kk f2 (s, p, a, n, T, iI L, iI e, st2, w, u2) (iI k) = kk (s, p, a, n, T, iI L, iI e', st2', w, u2')) ∧ e ≤ e' ∧ e' ≤ L ∧ ∀ j : Nat, (j : Int) < nn → u1' j = u2' j) ∨ (∃ (b : Int) (u1' u2' : Nat → Int32) (k0' en' sp' : Int32), (∀ kk : Pg → Option (Int32 × Pg), fX3_readNumbers_l24 (iI nn) kk f1 (t, u1, iI L, k0, st, iI e) (iI k) = some (iI 0, (t, u1', iI L, k0', iI b, en'))) ∧ (∀ kk : Md → Option (Int32 × Md), fX9_isDone_l24 x1 (iI nn) kk f2 (s, p, a, n, T, iI L, iI e, st2, w, u2) (iI k) = some (iI 0, (s, p, a, n, T, iI L, sp', iI b, w, u2'))) ∧ 0 ≤ b ∧ b ≤ L) := by
  intro m
  induction m with
  | zero =>
    intro f1 f2 k e u1 u2 k0 st st2 h0 h1 h2 h3 e0 eL hu
    obtain ⟨f1, rfl⟩ : ∃ q, f1 = q + 1 := ⟨f1 - 1, by omega⟩
    obtain ⟨f2, rfl⟩ : ∃ q, f2 = q + 1 := ⟨f2 - 1, by omega⟩
    obtain rfl : k = nn := by omega
    refine Or.inl ⟨e, u1, u2, k0, st, st2, fun kk => ?_, fun kk => ?_, by omega, eL, hu⟩
    · clear ht hT hu
      rw [fX3_readNumbers_l24_s]
      simp (disch := omega) only [nmD, bdS, b2S, lit32, iA, iS, iM, iN, iLt, iLe, iE, zlT, zlF, zleT, zleF, zeT, zeF, RdI, WrI, DvI, jmaxI, jminI, jabsI, bI0, Zb0, Zb1, ZbI, ↓reduceIte, not_true_eq_false, not_false_eq_true, ite_not, and_true, true_and, and_false, false_and, and_self]
    · clear ht hT hu
      rw [fX9_isDone_l24_s]
      simp (disch := omega) only [nmD, bdS, b2S, lit32, iA, iS, iM, iN, iLt, iLe, iE, zlT, zlF, zleT, zleF, zeT, zeF, RdI, WrI, DvI, jmaxI, jminI, jabsI, bI0, Zb0, Zb1, ZbI, ↓reduceIte, not_true_eq_false, not_false_eq_true, ite_not, and_true, true_and, and_false, false_and, and_self]
  | succ m ih =>
    intro f1 f2 k e u1 u2 k0 st st2 h0 h1 h2 h3 e0 eL hu
    obtain ⟨f1, rfl⟩ : ∃ q, f1 = q + 1 := ⟨f1 - 1, by omega⟩
    obtain ⟨f2, rfl⟩ : ∃ q, f2 = q + 1 := ⟨f2 - 1, by omega⟩
    obtain ⟨b, c, d, v, q, g1, g2, g3, g4, g5⟩ := numBoth (s := s) (p := p) (a := a) (n := n) ht hT hL e0 eL (k := k) (by omega) u1 u2 k0 st st2 w
    rcases g5 with ⟨rfl, g6, g7, g8⟩ | ⟨g6, g7⟩
    · have ih' := ih f1 f2 (k + 1) d (upd u1 k.toNat (iI v)) (upd u2 k.toNat (iI v)) (iI q) (iI b) (iI b) (by omega) (by omega) (by omega) (by omega) (by omega) g3 (fun j hj => by
        by_cases z : j = k.toNat
        · rw [z, ud_s, ud_s]
        · rw [ud_n (by omega), ud_n (by omega)]
          exact hu j (by omega))
      have ex : ∀ kk : Pg → Option (Int32 × Pg), fX3_readNumbers_l24 (iI nn) kk (f1 + 1) (t, u1, iI L, k0, st, iI e) (iI k) = fX3_readNumbers_l24 (iI nn) kk f1 (t, upd u1 k.toNat (iI v), iI L, iI q, iI b, iI d) (iI (k + 1)) := fun kk => by
        rw [fX3_readNumbers_l24_s]
        clear ih ih' ht hT hu g8
        simp (disch := omega) only [nmD, bdS, b2S, lit32, iA, iS, iM, iN, iLt, iLe, iE, zlT, zlF, zleT, zleF, zeT, zeF, RdI, WrI, DvI, jmaxI, jminI, jabsI, bI0, Zb0, Zb1, ZbI, ↓reduceIte, not_true_eq_false, not_false_eq_true, ite_not, and_true, true_and, and_false, false_and, and_self, g4, g6, g7]
      have em : ∀ kk : Md → Option (Int32 × Md), fX9_isDone_l24 x1 (iI nn) kk (f2 + 1) (s, p, a, n, T, iI L, iI e, st2, w, u2) (iI k) = fX9_isDone_l24 x1 (iI nn) kk f2 (s, p, a, n, T, iI L, iI d, iI b, w, upd u2 k.toNat (iI v)) (iI (k + 1)) := fun kk => by
        rw [fX9_isDone_l24_s]
        clear ih ih' ht hT hu g4 g6 g7 ex
        simp (disch := omega) only [nmD, bdS, b2S, lit32, iA, iS, iM, iN, iLt, iLe, iE, zlT, zlF, zleT, zleF, zeT, zeF, RdI, WrI, DvI, jmaxI, jminI, jabsI, bI0, Zb0, Zb1, ZbI, ↓reduceIte, not_true_eq_false, not_false_eq_true, ite_not, and_true, true_and, and_false, false_and, and_self, g8]
      rcases ih' with ⟨e', u1', u2', k0', st', st2', i1, i2, i3, i4, i5⟩ | ⟨b', u1', u2', k0', en', sp', i1, i2, i3, i4⟩
      · exact Or.inl ⟨e', u1', u2', k0', st', st2', fun kk => (ex kk).trans (i1 kk), fun kk => (em kk).trans (i2 kk), by omega, i4, i5⟩
      · exact Or.inr ⟨b', u1', u2', k0', en', sp', fun kk => (ex kk).trans (i1 kk), fun kk => (em kk).trans (i2 kk), i3, i4⟩
    · refine Or.inr ⟨b, u1, upd u2 k.toNat (iI v), iI q, iI d, iI c, fun kk => ?_, fun kk => ?_, by omega, by omega⟩
      · rw [fX3_readNumbers_l24_s]
        clear ih ht hT hu g7
        simp (disch := omega) only [nmD, bdS, b2S, lit32, iA, iS, iM, iN, iLt, iLe, iE, zlT, zlF, zleT, zleF, zeT, zeF, RdI, WrI, DvI, jmaxI, jminI, jabsI, bI0, Zb0, Zb1, ZbI, ↓reduceIte, not_true_eq_false, not_false_eq_true, ite_not, and_true, true_and, and_false, false_and, and_self, g4, g6]
      · rw [fX9_isDone_l24_s]
        clear ih ht hT hu g4 g6
        simp (disch := omega) only [nmD, bdS, b2S, lit32, iA, iS, iM, iN, iLt, iLe, iE, zlT, zlF, zleT, zleF, zeT, zeF, RdI, WrI, DvI, jmaxI, jminI, jabsI, bI0, Zb0, Zb1, ZbI, ↓reduceIte, not_true_eq_false, not_false_eq_true, ite_not, and_true, true_and, and_false, false_and, and_self, g7]
end NB
section OB
variable {V : Vn} {A : Ab} {K : Int} {s p a T t u1 u2 : Nat → Int32} {n len sp' st' k1 s1 e1 l1 : Int32}
set_option maxHeartbeats 2000000 in
theorem obeyBoth (hX : RepX V A) (hM : RepM s A) (hW : WF K A) (hK : K + 2 ≤ 80000) {i : Nat} (hi : i < 7) (hu : ∀ j : Nat, (j : Int) < Nm i → u1 j = u2 j) : ∃ (r : Int32) (V' : Vn) (s' : Nat → Int32) (A' : Ab), fX3_obey ((t, u1, l1, k1, s1, e1), V) (iI i) = some (r, ((t, u1, l1, k1, s1, e1), V')) ∧ fX9_does (s, p, a, n, T, len, sp', st', lI (Wd i), u2) = some (r, (s', p, a, n, T, len, sp', st', lI (Wd i), u2)) ∧ RepX V' A' ∧ RepM s' A' ∧ WF (K + 2) A' ∧ ∀ j : Nat, 517 ≤ j → s' j = s j := by
  have z0 : (0 : Int).toNat = 0 := rfl
  have z1 : (1 : Int).toNat = 1 := rfl
  have z2 : (2 : Int).toNat = 2 := rfl
  have z3 : (3 : Int).toNat = 3 := rfl
  have fin : ∀ {cx : Option (Int32 × Vn)} {cm : Option (Int32 × Md)} {K' : Int}, K' ≤ K + 1 → Ag cx cm s (p, a, n, T, len, sp', st', lI (Wd i), u2) K' → ∃ (r : Int32) (V' : Vn) (s' : Nat → Int32) (A' : Ab), cx = some (r, V') ∧ cm = some (r, (s', p, a, n, T, len, sp', st', lI (Wd i), u2)) ∧ RepX V' A' ∧ RepM s' A' ∧ WF (K + 2) A' ∧ ∀ j : Nat, 517 ≤ j → s' j = s j := by
    intro cx cm K' hk h
    obtain ⟨r, V', s', A', a1, a2, a3, a4, a5, a6⟩ := h
    exact ⟨r, V', s', A', a1, a2, a3, a4, a5.mono (by omega) hK, a6⟩
  rcases i7 hi with rfl | rfl | rfl | rfl | rfl | rfl | rfl
  · have w0 : Wd 0 = 1919905645 := rfl
    have ei : ((0 : Nat) : Int) = 0 := rfl
    have q0 := hu 0 (by decide)
    have q1 := hu 1 (by decide)
    have q2 := hu 2 (by decide)
    have q3 := hu 3 (by decide)
    obtain ⟨r, V', s', A', a1, a2, a3⟩ := fin (by omega) (agNewRoom (R := (p, a, n, T, len, sp', st', lI (Wd 0), u2)) hX hM hW (by omega) (u2 0) (u2 1) (u2 2) (u2 3))
    refine ⟨r, V', s', A', ?_, ?_, a3⟩
    · clear a3 a2 fin hu hX hM hW
      simp (disch := omega) only [nmD, bdS, b2S, lit32, iA, iS, iM, iN, iLt, iLe, iE, zlT, zlF, zleT, zleF, zeT, zeF, RdI, WrI, DvI, jmaxI, jminI, jabsI, bI0, Zb0, Zb1, ZbI, ↓reduceIte, not_true_eq_false, not_false_eq_true, ite_not, and_true, true_and, and_false, false_and, and_self, ei, fX3_obey, fX3_obey_j18, fX3_obey_j38, fX3_obey_j59, fX3_obey_j80, z0, z1, z2, z3, q0, q1, q2, q3, a1]
    · clear a3 a1 fin hu hX hM hW q0 q1 q2 q3
      rw [w0] at a2 ⊢
      simp (disch := omega) only [nmD, bdS, b2S, lit32, iA, iS, iM, iN, iLt, iLe, iE, zlT, zlF, zleT, zleF, zeT, zeF, RdI, WrI, DvI, jmaxI, jminI, jabsI, bI0, Zb0, Zb1, ZbI, ↓reduceIte, not_true_eq_false, not_false_eq_true, ite_not, and_true, true_and, and_false, false_and, and_self, litL, lg0, fX9_does, z0, z1, z2, z3, a2]
  · have w0 : Wd 1 = 1734960756 := rfl
    have ei : ((1 : Nat) : Int) = 1 := rfl
    have q0 := hu 0 (by decide)
    obtain ⟨r, V', s', A', a1, a2, a3⟩ := fin (by omega) (agGift (R := (p, a, n, T, len, sp', st', lI (Wd 1), u2)) hX hM hW (by omega) (u2 0))
    refine ⟨r, V', s', A', ?_, ?_, a3⟩
    · clear a3 a2 fin hu hX hM hW
      simp (disch := omega) only [nmD, bdS, b2S, lit32, iA, iS, iM, iN, iLt, iLe, iE, zlT, zlF, zleT, zleF, zeT, zeF, RdI, WrI, DvI, jmaxI, jminI, jabsI, bI0, Zb0, Zb1, ZbI, ↓reduceIte, not_true_eq_false, not_false_eq_true, ite_not, and_true, true_and, and_false, false_and, and_self, ei, fX3_obey, fX3_obey_j18, fX3_obey_j38, fX3_obey_j59, fX3_obey_j80, z0, z1, z2, z3, q0, a1]
    · clear a3 a1 fin hu hX hM hW q0
      rw [w0] at a2 ⊢
      simp (disch := omega) only [nmD, bdS, b2S, lit32, iA, iS, iM, iN, iLt, iLe, iE, zlT, zlF, zleT, zleF, zeT, zeF, RdI, WrI, DvI, jmaxI, jminI, jabsI, bI0, Zb0, Zb1, ZbI, ↓reduceIte, not_true_eq_false, not_false_eq_true, ite_not, and_true, true_and, and_false, false_and, and_self, litL, lg0, fX9_does, z0, z1, z2, z3, a2]
  · have w0 : Wd 2 = 1651470187 := rfl
    have ei : ((2 : Nat) : Int) = 2 := rfl
    have q0 := hu 0 (by decide)
    have q1 := hu 1 (by decide)
    have q2 := hu 2 (by decide)
    obtain ⟨r, V', s', A', a1, a2, a3⟩ := fin (by omega) (agBook (R := (p, a, n, T, len, sp', st', lI (Wd 2), u2)) hX hM hW (by omega) (u2 0) (u2 1) (u2 2) (iI (-1)))
    refine ⟨r, V', s', A', ?_, ?_, a3⟩
    · clear a3 a2 fin hu hX hM hW
      simp (disch := omega) only [nmD, bdS, b2S, lit32, iA, iS, iM, iN, iLt, iLe, iE, zlT, zlF, zleT, zleF, zeT, zeF, RdI, WrI, DvI, jmaxI, jminI, jabsI, bI0, Zb0, Zb1, ZbI, ↓reduceIte, not_true_eq_false, not_false_eq_true, ite_not, and_true, true_and, and_false, false_and, and_self, ei, fX3_obey, fX3_obey_j18, fX3_obey_j38, fX3_obey_j59, fX3_obey_j80, z0, z1, z2, z3, q0, q1, q2, a1]
    · clear a3 a1 fin hu hX hM hW q0 q1 q2
      rw [w0] at a2 ⊢
      simp (disch := omega) only [nmD, bdS, b2S, lit32, iA, iS, iM, iN, iLt, iLe, iE, zlT, zlF, zleT, zleF, zeT, zeF, RdI, WrI, DvI, jmaxI, jminI, jabsI, bI0, Zb0, Zb1, ZbI, ↓reduceIte, not_true_eq_false, not_false_eq_true, ite_not, and_true, true_and, and_false, false_and, and_self, litL, lg0, fX9_does, fX9_does_j89, fX9_does_j110, z0, z1, z2, z3, a2]
  · have w0 : Wd 3 = 7364985 := rfl
    have ei : ((3 : Nat) : Int) = 3 := rfl
    have q0 := hu 0 (by decide)
    have q1 := hu 1 (by decide)
    have q2 := hu 2 (by decide)
    have q3 := hu 3 (by decide)
    obtain ⟨r, V', s', A', a1, a2, a3⟩ := fin (by omega) (agBook (R := (p, a, n, T, len, sp', st', lI (Wd 3), u2)) hX hM hW (by omega) (u2 0) (u2 1) (u2 2) (u2 3))
    refine ⟨r, V', s', A', ?_, ?_, a3⟩
    · clear a3 a2 fin hu hX hM hW
      simp (disch := omega) only [nmD, bdS, b2S, lit32, iA, iS, iM, iN, iLt, iLe, iE, zlT, zlF, zleT, zleF, zeT, zeF, RdI, WrI, DvI, jmaxI, jminI, jabsI, bI0, Zb0, Zb1, ZbI, ↓reduceIte, not_true_eq_false, not_false_eq_true, ite_not, and_true, true_and, and_false, false_and, and_self, ei, fX3_obey, fX3_obey_j18, fX3_obey_j38, fX3_obey_j59, fX3_obey_j80, z0, z1, z2, z3, q0, q1, q2, q3, a1]
    · clear a3 a1 fin hu hX hM hW q0 q1 q2 q3
      rw [w0] at a2 ⊢
      simp (disch := omega) only [nmD, bdS, b2S, lit32, iA, iS, iM, iN, iLt, iLe, iE, zlT, zlF, zleT, zleF, zeT, zeF, RdI, WrI, DvI, jmaxI, jminI, jabsI, bI0, Zb0, Zb1, ZbI, ↓reduceIte, not_true_eq_false, not_false_eq_true, ite_not, and_true, true_and, and_false, false_and, and_self, litL, lg0, fX9_does, fX9_does_j89, fX9_does_j110, z0, z1, z2, z3, a2]
  · have w0 : Wd 4 = 1886151033 := rfl
    have ei : ((4 : Nat) : Int) = 4 := rfl
    have q0 := hu 0 (by decide)
    have q1 := hu 1 (by decide)
    have q2 := hu 2 (by decide)
    have q3 := hu 3 (by decide)
    obtain ⟨r, V', s', A', a1, a2, a3⟩ := fin (K' := K + 1) (by omega) (agPlay (R := (p, a, n, T, len, sp', st', lI (Wd 4), u2)) hX hM hW hK (u2 0) (u2 1) (u2 2) (u2 3))
    refine ⟨r, V', s', A', ?_, ?_, a3⟩
    · clear a3 a2 fin hu hX hM hW
      simp (disch := omega) only [nmD, bdS, b2S, lit32, iA, iS, iM, iN, iLt, iLe, iE, zlT, zlF, zleT, zleF, zeT, zeF, RdI, WrI, DvI, jmaxI, jminI, jabsI, bI0, Zb0, Zb1, ZbI, ↓reduceIte, not_true_eq_false, not_false_eq_true, ite_not, and_true, true_and, and_false, false_and, and_self, ei, fX3_obey, fX3_obey_j18, fX3_obey_j38, fX3_obey_j59, fX3_obey_j80, z0, z1, z2, z3, q0, q1, q2, q3, a1]
    · clear a3 a1 fin hu hX hM hW q0 q1 q2 q3
      rw [w0] at a2 ⊢
      simp (disch := omega) only [nmD, bdS, b2S, lit32, iA, iS, iM, iN, iLt, iLe, iE, zlT, zlF, zleT, zleF, zeT, zeF, RdI, WrI, DvI, jmaxI, jminI, jabsI, bI0, Zb0, Zb1, ZbI, ↓reduceIte, not_true_eq_false, not_false_eq_true, ite_not, and_true, true_and, and_false, false_and, and_self, litL, lg0, fX9_does, fX9_does_j162, z0, z1, z2, z3, a2]
  · have w0 : Wd 5 = 1685221232 := rfl
    have ei : ((5 : Nat) : Int) = 5 := rfl
    have q0 := hu 0 (by decide)
    obtain ⟨r, V', s', A', a1, a2, a3⟩ := fin (by omega) (agDrop (R := (p, a, n, T, len, sp', st', lI (Wd 5), u2)) hX hM hW (by omega) (u2 0))
    refine ⟨r, V', s', A', ?_, ?_, a3⟩
    · clear a3 a2 fin hu hX hM hW
      simp (disch := omega) only [nmD, bdS, b2S, lit32, iA, iS, iM, iN, iLt, iLe, iE, zlT, zlF, zleT, zleF, zeT, zeF, RdI, WrI, DvI, jmaxI, jminI, jabsI, bI0, Zb0, Zb1, ZbI, ↓reduceIte, not_true_eq_false, not_false_eq_true, ite_not, and_true, true_and, and_false, false_and, and_self, ei, fX3_obey, fX3_obey_j18, fX3_obey_j38, fX3_obey_j59, fX3_obey_j80, z0, z1, z2, z3, q0, a1]
    · clear a3 a1 fin hu hX hM hW q0
      rw [w0] at a2 ⊢
      simp (disch := omega) only [nmD, bdS, b2S, lit32, iA, iS, iM, iN, iLt, iLe, iE, zlT, zlF, zleT, zleF, zeT, zeF, RdI, WrI, DvI, jmaxI, jminI, jabsI, bI0, Zb0, Zb1, ZbI, ↓reduceIte, not_true_eq_false, not_false_eq_true, ite_not, and_true, true_and, and_false, false_and, and_self, litL, lg0, fX9_does, fX9_does_j162, z0, z1, z2, z3, a2]
  · have w0 : Wd 6 = 1785686382 := rfl
    have ei : ((6 : Nat) : Int) = 6 := rfl
    have q0 := hu 0 (by decide)
    have q1 := hu 1 (by decide)
    obtain ⟨r, V', s', A', a1, a2, a3⟩ := fin (by omega) (agJoin (R := (p, a, n, T, len, sp', st', lI (Wd 6), u2)) hX hM hW (by omega) (u2 0) (u2 1))
    refine ⟨r, V', s', A', ?_, ?_, a3⟩
    · clear a3 a2 fin hu hX hM hW
      simp (disch := omega) only [nmD, bdS, b2S, lit32, iA, iS, iM, iN, iLt, iLe, iE, zlT, zlF, zleT, zleF, zeT, zeF, RdI, WrI, DvI, jmaxI, jminI, jabsI, bI0, Zb0, Zb1, ZbI, ↓reduceIte, not_true_eq_false, not_false_eq_true, ite_not, and_true, true_and, and_false, false_and, and_self, ei, fX3_obey, fX3_obey_j18, fX3_obey_j38, fX3_obey_j59, fX3_obey_j80, z0, z1, z2, z3, q0, q1, a1]
    · clear a3 a1 fin hu hX hM hW q0 q1
      rw [w0] at a2 ⊢
      simp (disch := omega) only [nmD, bdS, b2S, lit32, iA, iS, iM, iN, iLt, iLe, iE, zlT, zlF, zleT, zleF, zeT, zeF, RdI, WrI, DvI, jmaxI, jminI, jabsI, bI0, Zb0, Zb1, ZbI, ↓reduceIte, not_true_eq_false, not_false_eq_true, ite_not, and_true, true_and, and_false, false_and, and_self, litL, lg0, fX9_does, fX9_does_j162, z0, z1, z2, z3, a2]
end OB
