/-! A program, on both sides. -/
section RU
variable {tx : Int → Int} {L : Int} {t T p a : Nat → Int32} {n : Int32}
theorem isW_lt {b c : Int} {i : Nat} (hi : i < 7) (hb : 1 ≤ tx b ∧ tx b ≤ 255) (h : isW tx i b c) : lt' (tx b) ∧ 3 ≤ c - b := by
  obtain ⟨h1, h2⟩ := h
  have e0 : iI (tx (b + (0 : Nat))) = chS i 0 := h2 0 (by rcases i7 hi with rfl | rfl | rfl | rfl | rfl | rfl | rfl <;> decide)
  rw [show b + ((0 : Nat) : Int) = b by omega] at e0
  unfold lt'
  rcases i7 hi with rfl | rfl | rfl | rfl | rfl | rfl | rfl
  · have e0 : iI (tx b) = iI 114 := e0
    have h1 : c - b = 4 := h1
    rw [iE (by omega) (by omega) (by omega) (by omega)] at e0
    omega
  · have e0 : iI (tx b) = iI 103 := e0
    have h1 : c - b = 4 := h1
    rw [iE (by omega) (by omega) (by omega) (by omega)] at e0
    omega
  · have e0 : iI (tx b) = iI 98 := e0
    have h1 : c - b = 4 := h1
    rw [iE (by omega) (by omega) (by omega) (by omega)] at e0
    omega
  · have e0 : iI (tx b) = iI 112 := e0
    have h1 : c - b = 3 := h1
    rw [iE (by omega) (by omega) (by omega) (by omega)] at e0
    omega
  · have e0 : iI (tx b) = iI 112 := e0
    have h1 : c - b = 4 := h1
    rw [iE (by omega) (by omega) (by omega) (by omega)] at e0
    omega
  · have e0 : iI (tx b) = iI 100 := e0
    have h1 : c - b = 4 := h1
    rw [iE (by omega) (by omega) (by omega) (by omega)] at e0
    omega
  · have e0 : iI (tx b) = iI 106 := e0
    have h1 : c - b = 4 := h1
    rw [iE (by omega) (by omega) (by omega) (by omega)] at e0
    omega
theorem Wd_nz {i : Nat} (hi : i < 7) : Wd i ≠ 0 := by
  rcases i7 hi with rfl | rfl | rfl | rfl | rfl | rfl | rfl <;> decide
/-- the word at b: the same command on both sides, or none -/
theorem wordBoth (ht : Tx tx L t) (hT : Tx tx L T) (hL : 0 ≤ L ∧ L ≤ 140) {s u1 u2 : Nat → Int32} {b c k : Int} (b0 : 0 ≤ b) (bL : b < L) (bc : b ≤ c) (cL : c ≤ L) (hsp : RN tx L sp b b) (hk : (lt' (tx b) ∧ k = 1 ∧ RN tx L lt' b c) ∨ (¬ lt' (tx b) ∧ (k = 2 ∨ k = 3))) (st : Int32) (w : Int64) : (∃ i : Nat, i < 7 ∧ k = 1 ∧ b + 1 ≤ c ∧ fX3_commandWord (t, u1, iI L, iI k, iI b, iI c) = some (iI i) ∧ fX9_isWord (s, p, a, n, T, iI L, iI b, st, w, u2) = some (iI 1, (s, p, a, n, T, iI L, iI c, iI b, lI (Wd i), u2))) ∨ (∃ (c' : Int) (z' : Int64), fX3_commandWord (t, u1, iI L, iI k, iI b, iI c) = some (iI (-1)) ∧ fX9_isWord (s, p, a, n, T, iI L, iI b, st, w, u2) = some (iI 0, (s, p, a, n, T, iI L, iI c', iI b, z', u2))) := by
  have hb := (ht b b0 bL).1
  obtain ⟨g1, g2⟩ := xCmd (u := u1) (k := k) ht hL.2 b0 bc cL
  obtain ⟨cm, z', m1, m2, m3⟩ := mWord (s := s) (p := p) (a := a) (n := n) hT hL b0 (by omega) hsp st w u2
  rcases hk with ⟨k1, k2, k3⟩ | ⟨k1, k2⟩
  · obtain rfl : cm = c := m1.one k3
    have hp := k3.pos bL k1
    have hz := fun (i : Nat) (hi : i < 7) => isW_zz (i := i) k3.2.2.1 bc hi
    by_cases q : ∃ i : Nat, i < 7 ∧ isW tx i b cm
    · obtain ⟨i, hi, hw⟩ := q
      have hw2 := (hz i hi).mp hw
      refine Or.inl ⟨i, hi, k2, hp, g1 i hi hw (fun i' hi' hw' => ?_), m2 i hi hw2.1 hw2.2⟩
      have hw3 := (hz i' (by omega)).mp hw'
      have := Wd_inj hi (show i' < 7 by omega) (hw2.2.symm.trans hw3.2)
      omega
    · have q' : ∀ i : Nat, i < 7 → ¬ isW tx i b cm := fun i hi hw => q ⟨i, hi, hw⟩
      refine Or.inr ⟨cm, z', g2 q', m3 ?_⟩
      by_cases h4 : cm - b ≤ 4
      · exact Or.inr (fun i hi e => q' i hi ((hz i hi).mpr ⟨h4, e⟩))
      · exact Or.inl h4
  · obtain rfl : cm = b := m1.one (RN.nil (by omega) (fun _ => k1))
    refine Or.inr ⟨cm, z', g2 (fun i hi hw => k1 (isW_lt hi hb hw).1), m3 (Or.inr (fun i hi e => ?_))⟩
    rw [Int.sub_self] at e
    exact Wd_nz hi e.symm
theorem Nm_cmd {i : Nat} (hi : i < 7) : cmdS.getD i 0 = iI (Nm i) := by
  rcases i7 hi with rfl | rfl | rfl | rfl | rfl | rfl | rfl <;> rfl
set_option maxHeartbeats 4000000 in
theorem runBoth (ht : Tx tx L t) (hT : Tx tx L T) (hL : 0 ≤ L ∧ L ≤ 140) {K0 : Int} (hK : K0 + 142 ≤ 80000) : ∀ (m f1 f2 : Nat) (e b x : Int) (V : Vn) (s : Nat → Int32) (A : Ab) (u1 u2 : Nat → Int32) (k0 st1 : Int32) (w : Int64), 0 ≤ e → e ≤ L → L - e < m → m ≤ f1 → m ≤ f2 → 0 ≤ x → 2 * x ≤ e → RN tx L sp e b → RepX V A → RepM s A → WF (K0 + e) A → (∃ (pl : Int) (u1' u2' f : Nat → Int32) (k1 s1 e1 sp' st' : Int32) (w' : Int64) (V' : Vn), fX3_perform_l7 (fun M21 => some ((-1000) - (M21.1.2.2.2.2.1), M21)) f1 ((t, u1, iI L, k0, st1, iI e), V) (iI x) = some (iI (-1000 - pl), ((t, u1', iI L, k1, s1, e1), V')) ∧ fX9_run_l15 f2 (s, p, a, n, T, iI L, iI b, iI b, w, u2) (iI x) = some (iI (-1000 - pl), (f, p, a, n, T, iI L, sp', st', w', u2')) ∧ (0 ≤ pl ∧ pl ≤ 140) ∧ ∀ j : Nat, j < 1553 → f j = a j) ∨ (∃ (x' : Int) (u1' u2' s' : Nat → Int32) (k1 s1 e1 sp' st' : Int32) (w' : Int64) (V' : Vn) (A' : Ab), fX3_perform_l7 (fun M21 => some ((-1000) - (M21.1.2.2.2.2.1), M21)) f1 ((t, u1, iI L, k0, st1, iI e), V) (iI x) = some (iI x', ((t, u1', iI L, k1, s1, e1), V')) ∧ (fX9_run_l15 f2 (s, p, a, n, T, iI L, iI b, iI b, w, u2) (iI x) = b2 (fX9_ends (s', p, a, n, T, iI 0, sp', st', w', u2') (iI x')) fun r7 M6 => some (r7, M6)) ∧ (0 ≤ x' ∧ x' ≤ 140) ∧ RepX V' A' ∧ RepM s' A' ∧ WF (K0 + 140) A' ∧ ∀ j : Nat, 517 ≤ j → s' j = s j) := by
  intro m
  induction m with
  | zero =>
    intro f1 f2 e b x V s A u1 u2 k0 st1 w h0 h1 h2
    omega
  | succ m ih =>
    intro f1 f2 e b x V s A u1 u2 k0 st1 w h0 h1 h2 h3 h4 h5 h6 hsp hX hM hW
    obtain ⟨f1, rfl⟩ : ∃ q, f1 = q + 1 := ⟨f1 - 1, by omega⟩
    obtain ⟨f2, rfl⟩ : ∃ q, f2 = q + 1 := ⟨f2 - 1, by omega⟩
    obtain ⟨b', c, k, y1, y2, y3, y4, y5⟩ := xTok (u := u1) ht hL h0 h1 k0 st1
    obtain rfl : b' = b := y2.one hsp
    have eb := hsp.1
    have bL := hsp.2.1
    have hkb := kd_b (tx b')
    have hlet : ∀ (s2 : Nat → Int32) (sp2 : Int32) (pl : Int) (w2 : Int64) (u3 : Nat → Int32), ∃ f : Nat → Int32, ((fX9_lets (s2, p, a, n, T, iI L, sp2, iI pl, w2, u3)).bind fun M13 => some ((-1000) - (M13.2.2.2.2.2.2.2.1), M13)) = some (iI (-1000 - pl), (f, p, a, n, T, iI L, sp2, iI pl, w2, u3)) ∧ ∀ j : Nat, j < 1553 → f j = a j := fun s2 sp2 pl w2 u3 => by
      obtain ⟨f, l1, l2⟩ := letsM (s := s2) (p := p) (a := a) (R := (n, T, iI L, sp2, iI pl, w2, u3))
      refine ⟨f, ?_, l2⟩
      rw [l1, bdS]
      simp (disch := omega) only [nmD, bdS, b2S, lit32, iA, iS, iM, iN, iLt, iLe, iE, zlT, zlF, zleT, zleF, zeT, zeF, RdI, WrI, DvI, jmaxI, jminI, jabsI, bI0, Zb0, Zb1, ZbI, ↓reduceIte, not_true_eq_false, not_false_eq_true, ite_not, and_true, true_and, and_false, false_and, and_self]
    rcases y3 with ⟨v1, v2, v3⟩ | ⟨v1, v2, v3⟩
    · -- the text ends here
      subst v2
      refine Or.inr ⟨x, u1, u2, s, iI 0, iI b', iI c, iI b', iI b', w, V, A, ?_, ?_, by omega, hX, hM, hW.mono (by omega) (by omega), fun _ _ => rfl⟩
      · rw [fX3_perform_l7_s]
        clear ih ht hT hX hM hW hsp y2 hlet
        simp (disch := omega) only [nmD, bdS, b2S, lit32, iA, iS, iM, iN, iLt, iLe, iE, zlT, zlF, zleT, zleF, zeT, zeF, RdI, WrI, DvI, jmaxI, jminI, jabsI, bI0, Zb0, Zb1, ZbI, ↓reduceIte, not_true_eq_false, not_false_eq_true, ite_not, and_true, true_and, and_false, false_and, and_self, y1]
      · rw [fX9_run_l15_s]
        clear ih ht hT hX hM hW hsp y2 hlet
        simp (disch := omega) only [nmD, bdS, b2S, lit32, iA, iS, iM, iN, iLt, iLe, iE, zlT, zlF, zleT, zleF, zeT, zeF, RdI, WrI, DvI, jmaxI, jminI, jabsI, bI0, Zb0, Zb1, ZbI, ↓reduceIte, not_true_eq_false, not_false_eq_true, ite_not, and_true, true_and, and_false, false_and, and_self]
    · have hk1 : 1 ≤ k ∧ k ≤ 3 := by omega
      have hk : (lt' (tx b') ∧ k = 1 ∧ RN tx L lt' b' c) ∨ (¬ lt' (tx b') ∧ (k = 2 ∨ k = 3)) := by
        rcases v3 with ⟨z1, z2, z3⟩ | ⟨z1, z2, z3⟩ | ⟨z1, z2, z3, z4⟩
        · exact Or.inl ⟨z1, z2, z3⟩
        · exact Or.inr ⟨fun q => by unfold lt' at q; unfold dg at z1; omega, by omega⟩
        · exact Or.inr ⟨z1, by omega⟩
      have hsb : RN tx L sp b' b' := RN.nil bL (fun q => hsp.2.2.2 q)
      have hwb := wordBoth (p := p) (a := a) (n := n) (s := s) (u1 := u1) (u2 := u2) ht hT hL (show 0 ≤ b' by omega) v1 y4 y5 hsb hk (iI b') w
      clear hk v3 hsb
      rcases hwb with ⟨i, hi, hk', hbc, w1, w2⟩ | ⟨c', z', w1, w2⟩
      · have hmn := mMany hi
        have hnb := Nm_b hi
        have hcmd := Nm_cmd hi
        have hnums := numsBoth (s := s) (p := p) (a := a) (n := n) ht hT hL (nn := Nm i) (by omega) (iI b') (lI (Wd i)) (Nm i).toNat FU FU 0 c u1 u2 (iI k) (iI b') (iI b') (by omega) (by omega) (by unfold FU; omega) (by unfold FU; omega) (by omega) y5 (fun j hj => by omega)
        have hrn : ∀ P : Pg, fX3_readNumbers P (iI i) = fX3_readNumbers_l24 (iI (Nm i)) (fun M11 => Zb 1 (some (1, M11))) FU P 0 := fun P => by
          have hrd : ∀ kk : Int32 → Option (Int32 × Pg), Rd (fun j => cmdS.getD j 0) 7 (iI i) kk = kk (iI (Nm i)) := fun kk => by
            rw [RdI (by omega) (by omega) (by omega), Int.toNat_natCast, hcmd]
          unfold fX3_readNumbers
          rw [if_neg (fun q => by rw [show (0 : Int32) = iI 0 from rfl, iLt (by omega) (by omega) (by omega) (by omega)] at q; omega), if_neg (fun q => by rw [show (7 : Int32) = iI 7 from rfl, iLe (by omega) (by omega) (by omega) (by omega)] at q; omega), hrd]
          rfl
        rcases hnums with ⟨e2, u1a, u2a, k2, s2, st2, n1, n2, n3, n4, n5⟩ | ⟨b2, u1a, u2a, k2, en2, sp2, n1, n2, n3, n4⟩
        · have hrn2 : fX3_readNumbers (t, u1, iI L, iI k, iI b', iI c) (iI i) = some (iI 1, (t, u1a, iI L, k2, s2, iI e2)) := by
            rw [hrn]
            exact n1 _
          clear hrn n1
          obtain ⟨b3, d3, q3, o1, o2, o3, o4⟩ := stopBoth (s := s) (p := p) (a := a) (n := n) ht hT hL (e := e2) (by omega) n4 u1a u2a k2 s2 st2 (lI (Wd i))
          rcases o4 with ⟨o5, o6, o7, o8⟩ | ⟨o5, o6⟩
          · obtain ⟨r, V', s', A', a1, a2, a3, a4, a5, a6⟩ := obeyBoth (p := p) (a := a) (T := T) (t := t) (n := n) (len := iI L) (sp' := iI d3) (st' := iI b') (k1 := iI q3) (s1 := iI b3) (e1 := iI d3) (l1 := iI L) hX hM hW (by omega) hi n5
            by_cases hr : r < 0
            · -- the call is refused
              obtain ⟨f, g1, g2⟩ := hlet s' (iI d3) b' (lI (Wd i)) u2a
              have hr2 : ¬ iI 0 ≤ r := fun q => absurd hr (Int32.not_lt.mpr q)
              have hr3 : r < iI 0 := hr
              refine Or.inl ⟨b', u1a, u2a, f, iI q3, iI b3, iI d3, iI d3, iI b', lI (Wd i), V', ?_, ?_, by omega, g2⟩
              · rw [fX3_perform_l7_s]
                clear ih ht hT hX hM hW hsp y2 hlet g1 g2 a2 a3 a4 a5 a6 n2 n5 o8 w2
                simp (disch := omega) only [nmD, bdS, b2S, lit32, iA, iS, iM, iN, iLt, iLe, iE, zlT, zlF, zleT, zleF, zeT, zeF, RdI, WrI, DvI, jmaxI, jminI, jabsI, bI0, Zb0, Zb1, ZbI, ↓reduceIte, not_true_eq_false, not_false_eq_true, ite_not, and_true, true_and, and_false, false_and, and_self, y1, w1, hrn2, o3, o7, a1, hr2]
              · rw [← g1, fX9_run_l15_s]
                clear ih ht hT hX hM hW hsp y2 hlet g1 g2 a1 a3 a4 a5 a6 n5 o3 o7 w1 hrn2 y1
                simp (disch := omega) only [nmD, bdS, b2S, lit32, iA, iS, iM, iN, iLt, iLe, iE, zlT, zlF, zleT, zleF, zeT, zeF, RdI, WrI, DvI, jmaxI, jminI, jabsI, bI0, Zb0, Zb1, ZbI, ↓reduceIte, not_true_eq_false, not_false_eq_true, ite_not, and_true, true_and, and_false, false_and, and_self, fX9_isDone, w2, hmn, n2, o8, a2, hr3, fX9_isDone_j71]
            · -- the next command
              have hr2 : iI 0 ≤ r := Int32.not_lt.mp hr
              have hr3 : ¬ r < iI 0 := hr
              obtain ⟨b4, p1, p2⟩ := mSkip (s := s') (p := p) (a := a) (n := n) (st := iI b') (w := lI (Wd i)) (u := u2a) hT hL (e := d3) (by omega) (by omega)
              have hW' : WF (K0 + d3) A' := a5.mono (by omega) (by omega)
              have ih' := ih f1 f2 d3 b4 (x + 1) V' s' A' u1a u2a (iI q3) (iI b3) (lI (Wd i)) (by omega) (by omega) (by omega) (by omega) (by omega) (by omega) (by omega) p2 a3 a4 hW'
              have ex : fX3_perform_l7 (fun M21 => some ((-1000) - (M21.1.2.2.2.2.1), M21)) (f1 + 1) ((t, u1, iI L, k0, st1, iI e), V) (iI x) = fX3_perform_l7 (fun M21 => some ((-1000) - (M21.1.2.2.2.2.1), M21)) f1 ((t, u1a, iI L, iI q3, iI b3, iI d3), V') (iI (x + 1)) := by
                rw [fX3_perform_l7_s]
                clear ih ih' ht hT hX hM hW hsp y2 hlet a2 a3 a4 a5 a6 n2 n5 o8 w2 p1 p2 hW'
                simp (disch := omega) only [nmD, bdS, b2S, lit32, iA, iS, iM, iN, iLt, iLe, iE, zlT, zlF, zleT, zleF, zeT, zeF, RdI, WrI, DvI, jmaxI, jminI, jabsI, bI0, Zb0, Zb1, ZbI, ↓reduceIte, not_true_eq_false, not_false_eq_true, ite_not, and_true, true_and, and_false, false_and, and_self, y1, w1, hrn2, o3, o7, a1, hr2]
              have em : fX9_run_l15 (f2 + 1) (s, p, a, n, T, iI L, iI b', iI b', w, u2) (iI x) = fX9_run_l15 f2 (s', p, a, n, T, iI L, iI b4, iI b4, lI (Wd i), u2a) (iI (x + 1)) := by
                rw [fX9_run_l15_s]
                clear ih ih' ht hT hX hM hW hsp y2 hlet a1 a3 a4 a5 a6 n5 o3 o7 w1 hrn2 y1 p2 hW' ex
                simp (disch := omega) only [nmD, bdS, b2S, lit32, iA, iS, iM, iN, iLt, iLe, iE, zlT, zlF, zleT, zleF, zeT, zeF, RdI, WrI, DvI, jmaxI, jminI, jabsI, bI0, Zb0, Zb1, ZbI, ↓reduceIte, not_true_eq_false, not_false_eq_true, ite_not, and_true, true_and, and_false, false_and, and_self, fX9_isDone, w2, hmn, n2, o8, a2, hr3, fX9_isDone_j71, p1]
              rw [ex, em]
              rcases ih' with ⟨pl, ua, ub, f, x1, x2, x3, x4, x5, x6, x7, i1, i2, i3, i4⟩ | ⟨x', ua, ub, s2', x1, x2, x3, x4, x5, x6, x7, x8, i1, i2, i3, i4, i5, i6, i7⟩
              · exact Or.inl ⟨pl, ua, ub, f, x1, x2, x3, x4, x5, x6, x7, i1, i2, i3, i4⟩
              · exact Or.inr ⟨x', ua, ub, s2', x1, x2, x3, x4, x5, x6, x7, x8, i1, i2, i3, i4, i5, i6, fun j hj => by rw [i7 j hj, a6 j hj]⟩
          · -- no semicolon
            obtain ⟨f, g1, g2⟩ := hlet s (iI b3) b3 (lI (Wd i)) u2a
            refine Or.inl ⟨b3, u1a, u2a, f, iI q3, iI b3, iI d3, iI b3, iI b3, lI (Wd i), V, ?_, ?_, by omega, g2⟩
            · rw [fX3_perform_l7_s]
              clear ih ht hT hX hM hW hsp y2 hlet g1 g2 n2 n5 o6 w2
              simp (disch := omega) only [nmD, bdS, b2S, lit32, iA, iS, iM, iN, iLt, iLe, iE, zlT, zlF, zleT, zleF, zeT, zeF, RdI, WrI, DvI, jmaxI, jminI, jabsI, bI0, Zb0, Zb1, ZbI, ↓reduceIte, not_true_eq_false, not_false_eq_true, ite_not, and_true, true_and, and_false, false_and, and_self, y1, w1, hrn2, o3, o5]
            · rw [← g1, fX9_run_l15_s]
              clear ih ht hT hX hM hW hsp y2 hlet g1 g2 n5 o3 o5 w1 hrn2 y1
              simp (disch := omega) only [nmD, bdS, b2S, lit32, iA, iS, iM, iN, iLt, iLe, iE, zlT, zlF, zleT, zleF, zeT, zeF, RdI, WrI, DvI, jmaxI, jminI, jabsI, bI0, Zb0, Zb1, ZbI, ↓reduceIte, not_true_eq_false, not_false_eq_true, ite_not, and_true, true_and, and_false, false_and, and_self, fX9_isDone, w2, hmn, n2, o6]
        · -- no number
          have hrn2 : fX3_readNumbers (t, u1, iI L, iI k, iI b', iI c) (iI i) = some (iI 0, (t, u1a, iI L, k2, iI b2, en2)) := by
            rw [hrn]
            exact n1 _
          clear hrn n1
          obtain ⟨f, g1, g2⟩ := hlet s sp2 b2 (lI (Wd i)) u2a
          refine Or.inl ⟨b2, u1a, u2a, f, k2, iI b2, en2, sp2, iI b2, lI (Wd i), V, ?_, ?_, by omega, g2⟩
          · rw [fX3_perform_l7_s]
            clear ih ht hT hX hM hW hsp y2 hlet g1 g2 n2 w2
            simp (disch := omega) only [nmD, bdS, b2S, lit32, iA, iS, iM, iN, iLt, iLe, iE, zlT, zlF, zleT, zleF, zeT, zeF, RdI, WrI, DvI, jmaxI, jminI, jabsI, bI0, Zb0, Zb1, ZbI, ↓reduceIte, not_true_eq_false, not_false_eq_true, ite_not, and_true, true_and, and_false, false_and, and_self, y1, w1, hrn2]
          · rw [← g1, fX9_run_l15_s]
            clear ih ht hT hX hM hW hsp y2 hlet g1 g2 w1 hrn2 y1
            simp (disch := omega) only [nmD, bdS, b2S, lit32, iA, iS, iM, iN, iLt, iLe, iE, zlT, zlF, zleT, zleF, zeT, zeF, RdI, WrI, DvI, jmaxI, jminI, jabsI, bI0, Zb0, Zb1, ZbI, ↓reduceIte, not_true_eq_false, not_false_eq_true, ite_not, and_true, true_and, and_false, false_and, and_self, fX9_isDone, w2, hmn, n2]
      · -- no word
        obtain ⟨f, g1, g2⟩ := hlet s (iI c') b' z' u2
        refine Or.inl ⟨b', u1, u2, f, iI k, iI b', iI c, iI c', iI b', z', V, ?_, ?_, by omega, g2⟩
        · rw [fX3_perform_l7_s]
          clear ih ht hT hX hM hW hsp y2 hlet g1 g2 w2
          simp (disch := omega) only [nmD, bdS, b2S, lit32, iA, iS, iM, iN, iLt, iLe, iE, zlT, zlF, zleT, zleF, zeT, zeF, RdI, WrI, DvI, jmaxI, jminI, jabsI, bI0, Zb0, Zb1, ZbI, ↓reduceIte, not_true_eq_false, not_false_eq_true, ite_not, and_true, true_and, and_false, false_and, and_self, y1, w1]
        · rw [← g1, fX9_run_l15_s]
          clear ih ht hT hX hM hW hsp y2 hlet g1 g2 w1 y1
          simp (disch := omega) only [nmD, bdS, b2S, lit32, iA, iS, iM, iN, iLt, iLe, iE, zlT, zlF, zleT, zleF, zeT, zeF, RdI, WrI, DvI, jmaxI, jminI, jabsI, bI0, Zb0, Zb1, ZbI, ↓reduceIte, not_true_eq_false, not_false_eq_true, ite_not, and_true, true_and, and_false, false_and, and_self, fX9_isDone, w2]
end RU
