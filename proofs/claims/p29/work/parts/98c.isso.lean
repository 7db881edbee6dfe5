/-! What the law asks of the venue holds. -/
theorem pe_eta {α β : Type} (p : α × β) : (p.1, p.2) = p := (rfl)
section IS1
variable {N0 : XLm} {A : Ab} {K G : Int} {T : (Nat → Int32) × (Nat → Int32)}
theorem is97 (h : InvX K N0.1 A) (hL : RepL N0.2 A G) (hm : Sma A) {k : Int} (hk : 0 ≤ k ∧ k < A.nR) (kk : XSm → Int32 → Option (Int32 × XSm)) : ∀ (n fu : Nat) (w : Int), 0 ≤ w → w + n = 11 → n < fu → fL_isSo2_l97 (iI k) kk fu (N0, T) (iI 1) (iI w) = kk (N0, T) (iI 1) := by
  intro n
  induction n with
  | zero =>
    intro fu w w0 w1 w2
    obtain ⟨fu, rfl⟩ : ∃ q, fu = q + 1 := ⟨fu - 1, by omega⟩
    rw [fL_isSo2_l97_s]
    clear h hL hm
    simp (disch := omega) only [eq_self, MoI, nmD, bdS, b2S, lit32, iA, iS, iM, iN, iLt, iLe, iE, zlT, zlF, zleT, zleF, zeT, zeF, RdI, WrI, DvI, jmaxI, jminI, jabsI, bI0, Zb0, Zb1, ZbI, ↓reduceIte, not_true_eq_false, not_false_eq_true, ite_not, and_true, true_and, and_false, false_and, and_self]
  | succ n ih =>
    intro fu w w0 w1 w2
    obtain ⟨fu, rfl⟩ : ∃ q, fu = q + 1 := ⟨fu - 1, by omega⟩
    have e1 := rRoom h.X h.W (x := k) (y := w) hk ⟨w0, by omega⟩
    have e2 := hL.R (r := k) (c := w) hk.1 hk.2 w0 (by omega)
    obtain ⟨m1, m2, m3⟩ := hm
    obtain ⟨hk1, hk2⟩ := hk
    rw [← ih fu (w + 1) (by omega) (by omega) (by omega), fL_isSo2_l97_s]
    clear ih h hL
    simp (disch := omega) only [eq_self, MoI, nmD, bdS, b2S, lit32, iA, iS, iM, iN, iLt, iLe, iE, zlT, zlF, zleT, zleF, zeT, zeF, RdI, WrI, DvI, jmaxI, jminI, jabsI, bI0, Zb0, Zb1, ZbI, ↓reduceIte, not_true_eq_false, not_false_eq_true, ite_not, and_true, true_and, and_false, false_and, and_self, e1, e2, pe_eta, fL_isSo2_j135]
theorem is81 (h : InvX K N0.1 A) (hL : RepL N0.2 A G) (hm : Sma A) (kk : XSm → Int32 → Option (Int32 × XSm)) : ∀ (n fu : Nat) (k : Int), 0 ≤ k → k + n = A.nR → n < fu → fL_isSo2_l81 kk fu (N0, T) (iI 1) (iI k) = kk (N0, T) (iI 1) := by
  have hn := h.W.n
  have g0 := hL.g0
  intro n
  induction n with
  | zero =>
    intro fu k k0 k1 k2
    obtain ⟨fu, rfl⟩ : ∃ q, fu = q + 1 := ⟨fu - 1, by omega⟩
    rw [fL_isSo2_l81_s]
    clear h hL
    obtain ⟨m1, m2, m3⟩ := hm
    simp (disch := omega) only [eq_self, MoI, nmD, bdS, b2S, lit32, iA, iS, iM, iN, iLt, iLe, iE, zlT, zlF, zleT, zleF, zeT, zeF, RdI, WrI, DvI, jmaxI, jminI, jabsI, bI0, Zb0, Zb1, ZbI, ↓reduceIte, not_true_eq_false, not_false_eq_true, ite_not, and_true, true_and, and_false, false_and, and_self, g0]
  | succ n ih =>
    intro fu k k0 k1 k2
    obtain ⟨fu, rfl⟩ : ∃ q, fu = q + 1 := ⟨fu - 1, by omega⟩
    have hk : 0 ≤ k ∧ k < A.nR := ⟨k0, by omega⟩
    have e97 := fun kk => is97 (T := T) h hL hm hk kk 11 FU 0 (by omega) (by omega) (by unfold FU; omega)
    have e11 := rRoom11 h.X h.W hk
    have e12 := rRoomP h.X h.W (y := 12) hk (by omega) (by omega) (by omega)
    have hnx := lNext hL h.W hm (room := k) (fr := 0) (by omega) (by omega)
    have enl : nl A k 0 = if nx A k (-1) = -9 then -1 else nx A k (-1) := rfl
    have hu := nxU h.W k (-1)
    rw [← ih fu (k + 1) (by omega) (by omega) (by omega), fL_isSo2_l81_s]
    obtain ⟨m1, m2, m3⟩ := hm
    obtain ⟨hk1, hk2⟩ := hk
    rcases hu with ⟨z, -⟩ | ⟨z1, z2, -⟩
    · rw [z, if_pos rfl] at enl
      rw [enl] at hnx
      rw [z] at e11
      clear ih h hL enl
      simp (disch := omega) only [eq_self, MoI, nmD, bdS, b2S, lit32, iA, iS, iM, iN, iLt, iLe, iE, zlT, zlF, zleT, zleF, zeT, zeF, RdI, WrI, DvI, jmaxI, jminI, jabsI, bI0, Zb0, Zb1, ZbI, ↓reduceIte, not_true_eq_false, not_false_eq_true, ite_not, and_true, true_and, and_false, false_and, and_self, g0, e97, e11, e12, hnx, pe_eta, fL_isSo2_j179, fL_isSo2_j199]
    · rw [if_neg (by omega)] at enl
      rw [enl] at hnx
      clear ih h hL enl
      simp (disch := omega) only [eq_self, MoI, nmD, bdS, b2S, lit32, iA, iS, iM, iN, iLt, iLe, iE, zlT, zlF, zleT, zleF, zeT, zeF, RdI, WrI, DvI, jmaxI, jminI, jabsI, bI0, Zb0, Zb1, ZbI, ↓reduceIte, not_true_eq_false, not_false_eq_true, ite_not, and_true, true_and, and_false, false_and, and_self, g0, e97, e11, e12, hnx, pe_eta, fL_isSo2_j179, fL_isSo2_j199]
theorem is241 (h : InvX K N0.1 A) (hL : RepL N0.2 A G) (hm : Sma A) {ow st : Int → Int} (hQ : RQ N0.2.2.2.2.2.1 A G ow st) {i : Int} (hi : 0 ≤ i ∧ i < A.nB) (x7 x12 : Int32) (kk : XSm → Int32 → Option (Int32 × XSm)) : fL_isSo2_l241 x7 (iI i) x12 kk FU (N0, T) (iI 0) (iI 0) = kk (N0, T) (iI (cn A i)) := by
  have hn := h.W.n
  have g1 := hL.g1
  obtain ⟨m1, m2, m3⟩ := hm
  have key : ∀ (k fu : Nat) (p a : Int), 0 ≤ p → p + k = A.nB → k < fu → fL_isSo2_l241 x7 (iI i) x12 kk fu (N0, T) (iI a) (iI p) = kk (N0, T) (iI (lp (fun j b => b + (if ow j = i then ps1 A j else 0)) k p a)) := by
    intro k
    induction k with
    | zero =>
      intro fu p a p0 p1 p2
      obtain ⟨fu, rfl⟩ : ∃ q, fu = q + 1 := ⟨fu - 1, by omega⟩
      rw [fL_isSo2_l241_s, lp_z]
      clear h hL hQ
      simp (disch := omega) only [eq_self, MoI, nmD, bdS, b2S, lit32, iA, iS, iM, iN, iLt, iLe, iE, zlT, zlF, zleT, zleF, zeT, zeF, RdI, WrI, DvI, jmaxI, jminI, jabsI, bI0, Zb0, Zb1, ZbI, ↓reduceIte, not_true_eq_false, not_false_eq_true, ite_not, and_true, true_and, and_false, false_and, and_self, g1]
    | succ k ih =>
      intro fu p a p0 p1 p2
      obtain ⟨fu, rfl⟩ : ∃ q, fu = q + 1 := ⟨fu - 1, by omega⟩
      obtain ⟨o2, o3, o4, o5, o6⟩ := hQ.1 p p0 (by omega)
      obtain ⟨hi1, hi2⟩ := hi
      rw [fL_isSo2_l241_s, lp_s]
      by_cases c : ow p = i
      · obtain ⟨o7, o8, o9⟩ := o6 (by omega)
        have hpw := h.W.p (i := ow p) (by omega) (by omega) o9
        have hu := hpw.2.2.1
        clear hpw o9 o6
        by_cases c2 : 0 < A.U p
        · have := ih fu (p + 1) (a + 1) (by omega) (by omega) (by omega)
          rw [if_pos c, show ps1 A p = 1 from if_pos c2, ← this]
          clear ih this h hL hQ
          simp (disch := omega) only [eq_self, MoI, nmD, bdS, b2S, lit32, iA, iS, iM, iN, iLt, iLe, iE, zlT, zlF, zleT, zleF, zeT, zeF, RdI, WrI, DvI, jmaxI, jminI, jabsI, bI0, Zb0, Zb1, ZbI, ↓reduceIte, not_true_eq_false, not_false_eq_true, ite_not, and_true, true_and, and_false, false_and, and_self, g1, o2, o8, c, fL_isSo2_j282]
        · have := ih fu (p + 1) (a + 0) (by omega) (by omega) (by omega)
          rw [if_pos c, show ps1 A p = 0 from if_neg c2, ← this]
          clear ih this h hL hQ
          simp (disch := omega) only [eq_self, MoI, nmD, bdS, b2S, lit32, iA, iS, iM, iN, iLt, iLe, iE, zlT, zlF, zleT, zleF, zeT, zeF, RdI, WrI, DvI, jmaxI, jminI, jabsI, bI0, Zb0, Zb1, ZbI, ↓reduceIte, not_true_eq_false, not_false_eq_true, ite_not, and_true, true_and, and_false, false_and, and_self, g1, o2, o8, c, fL_isSo2_j281, fL_isSo2_j282]
      · have := ih fu (p + 1) (a + 0) (by omega) (by omega) (by omega)
        rw [if_neg c, ← this]
        clear ih this h hL hQ o6
        simp (disch := omega) only [eq_self, MoI, nmD, bdS, b2S, lit32, iA, iS, iM, iN, iLt, iLe, iE, zlT, zlF, zleT, zleF, zeT, zeF, RdI, WrI, DvI, jmaxI, jminI, jabsI, bI0, Zb0, Zb1, ZbI, ↓reduceIte, not_true_eq_false, not_false_eq_true, ite_not, and_true, true_and, and_false, false_and, and_self, g1, o2, fL_isSo2_j281, fL_isSo2_j282]
  have e := key A.nB.toNat FU 0 0 (by omega) (by omega) (by unfold FU; omega)
  rw [lp_sum0, ow_sum hQ h.W (ps1 A) hi.1 hi.2] at e
  exact e
theorem is294 (h : InvX K N0.1 A) (hL : RepL N0.2 A G) (hm : Sma A) {i : Int} (hi : 0 ≤ i ∧ i < A.nB) (x11 x12 : Int32) (kk : XSm → Int32 → Option (Int32 × XSm)) : ∀ (n fu : Nat) (w : Int), 0 ≤ w → w + n = 6 → n < fu → fL_isSo2_l294 (iI i) x11 x12 kk fu (N0, T) (iI 1) (iI w) = kk (N0, T) (iI 1) := by
  intro n
  induction n with
  | zero =>
    intro fu w w0 w1 w2
    obtain ⟨fu, rfl⟩ : ∃ q, fu = q + 1 := ⟨fu - 1, by omega⟩
    rw [fL_isSo2_l294_s]
    clear h hL hm
    simp (disch := omega) only [eq_self, MoI, nmD, bdS, b2S, lit32, iA, iS, iM, iN, iLt, iLe, iE, zlT, zlF, zleT, zleF, zeT, zeF, RdI, WrI, DvI, jmaxI, jminI, jabsI, bI0, Zb0, Zb1, ZbI, ↓reduceIte, not_true_eq_false, not_false_eq_true, ite_not, and_true, true_and, and_false, false_and, and_self]
  | succ n ih =>
    intro fu w w0 w1 w2
    obtain ⟨fu, rfl⟩ : ∃ q, fu = q + 1 := ⟨fu - 1, by omega⟩
    have e1 := rBook h.X h.W (x := i) (y := w) hi ⟨w0, by omega⟩
    have e2 := hL.B (i := i) (c := w) hi.1 hi.2 w0 (by omega)
    obtain ⟨m1, m2, m3⟩ := hm
    obtain ⟨hi1, hi2⟩ := hi
    rw [← ih fu (w + 1) (by omega) (by omega) (by omega), fL_isSo2_l294_s]
    clear ih h hL
    simp (disch := omega) only [eq_self, MoI, nmD, bdS, b2S, lit32, iA, iS, iM, iN, iLt, iLe, iE, zlT, zlF, zleT, zleF, zeT, zeF, RdI, WrI, DvI, jmaxI, jminI, jabsI, bI0, Zb0, Zb1, ZbI, ↓reduceIte, not_true_eq_false, not_false_eq_true, ite_not, and_true, true_and, and_false, false_and, and_self, e1, e2, pe_eta, fL_isSo2_j333]
/-- the counts and the sums when a bookings and b vouchers are counted -/
def SS (T : (Nat → Int32) × (Nat → Int32)) (A : Ab) (a b : Nat) : Prop :=
  (∀ x : Int, 0 ≤ x → x < 4 → T.1 x.toNat = iI (sm (fun j => if A.B j 3 = x then 1 else 0) a)) ∧ T.2 (1 : Int).toNat = iI (sm (fun v => A.V v 1) b) ∧ T.2 (2 : Int).toNat = iI (sm (fun j => A.B j 4) a) ∧ T.2 (3 : Int).toNat = iI (sm (fun j => A.B j 6) a) ∧ T.2 (4 : Int).toNat = iI (sm (fun j => A.B j 5) a) ∧ T.2 (5 : Int).toNat = iI (sm (rsum A) a) ∧ T.2 (6 : Int).toNat = iI (sm (fun v => A.V v 0) b)
def stT (T : (Nat → Int32) × (Nat → Int32)) (A : Ab) (a : Nat) (i : Int) : (Nat → Int32) × (Nat → Int32) := (upd T.1 (A.B i 3).toNat (iI (sm (fun j => if A.B j 3 = A.B i 3 then 1 else 0) a + 1)), upd (upd (upd (upd T.2 (2 : Int).toNat (iI (sm (fun j => A.B j 4) a + A.B i 4))) (3 : Int).toNat (iI (sm (fun j => A.B j 6) a + A.B i 6))) (4 : Int).toNat (iI (sm (fun j => A.B j 5) a + A.B i 5))) (5 : Int).toNat (iI (sm (rsum A) a + (A.B i 5 + rsum A i - A.B i 5))))
theorem SS.stp {a : Nat} {i : Int} (hs : SS T A a 0) (hi : i = a) (h3 : 0 ≤ A.B i 3 ∧ A.B i 3 ≤ 3) : SS (stT T A a i) A (a + 1) 0 := by
  subst hi
  obtain ⟨h1, s1, s2, s3, s4, s5, s6⟩ := hs
  have n12 : ∀ (f : Nat → Int32) (v : Int32) (x y : Nat), x ≠ y → upd f x v y = f y := fun f v x y q => if_neg (fun z => q z.symm)
  refine ⟨fun x x0 x1 => ?_, ?_, ?_, ?_, ?_, ?_, ?_⟩
  · show upd T.1 (A.B a 3).toNat _ x.toNat = iI (sm _ (a + 1))
    rw [sm_s]
    by_cases e : x = A.B a 3
    · rw [e, ud_s, if_pos rfl]
    · rw [ud_n (by omega), if_neg (fun q => e q.symm), Int.add_zero]
      exact h1 x x0 x1
  · dsimp only [stT]
    rw [n12 _ _ _ _ (by decide), n12 _ _ _ _ (by decide), n12 _ _ _ _ (by decide), n12 _ _ _ _ (by decide)]
    exact s1
  · dsimp only [stT]
    rw [n12 _ _ _ _ (by decide), n12 _ _ _ _ (by decide), n12 _ _ _ _ (by decide), ud_s]
    rfl
  · dsimp only [stT]
    rw [n12 _ _ _ _ (by decide), n12 _ _ _ _ (by decide), ud_s]
    rfl
  · dsimp only [stT]
    rw [n12 _ _ _ _ (by decide), ud_s]
    rfl
  · dsimp only [stT]
    rw [ud_s, sm_s, show A.B a 5 + rsum A a - A.B a 5 = rsum A a by omega]
  · dsimp only [stT]
    rw [n12 _ _ _ _ (by decide), n12 _ _ _ _ (by decide), n12 _ _ _ _ (by decide), n12 _ _ _ _ (by decide)]
    exact s6
set_option maxHeartbeats 4000000 in
theorem is454 (h : InvX K N0.1 A) (hL : RepL N0.2 A G) (hm : Sma A) {i : Int} (hi : 0 ≤ i ∧ i < A.nB) {a : Nat} (ha : i = a) (hs : SS T A a 0) (kk : XSm → Int32 → Option (Int32 × XSm)) (ih : XSm → Int32 → Int32 → Option (Int32 × XSm)) : fL_isSo2_j454 kk ih (N0, T) (iI i) (iI (A.B i 5 + rsum A i)) (iI 1) = ih (N0, stT T A a i) (iI 1) (iI (i + 1)) := by
  have hb := h.W.b hi.1 hi.2
  have b3 := hL.B (i := i) (c := 3) hi.1 hi.2 (by omega) (by omega)
  have b4 := hL.B (i := i) (c := 4) hi.1 hi.2 (by omega) (by omega)
  have b5 := hL.B (i := i) (c := 5) hi.1 hi.2 (by omega) (by omega)
  have b6 := hL.B (i := i) (c := 6) hi.1 hi.2 (by omega) (by omega)
  obtain ⟨h1, s1, s2, s3, s4, s5, s6⟩ := hs
  have t0 := h1 (A.B i 3) (by omega) (by omega)
  have n12 : ∀ (f : Nat → Int32) (v : Int32) (x y : Nat), x ≠ y → upd f x v y = f y := fun f v x y q => if_neg (fun z => q z.symm)
  have u3 : upd T.2 (2 : Int).toNat (iI (sm (fun j => A.B j 4) a + A.B i 4)) (3 : Int).toNat = iI (sm (fun j => A.B j 6) a) := (n12 _ _ _ _ (by decide)).trans s3
  have u4 : upd (upd T.2 (2 : Int).toNat (iI (sm (fun j => A.B j 4) a + A.B i 4))) (3 : Int).toNat (iI (sm (fun j => A.B j 6) a + A.B i 6)) (4 : Int).toNat = iI (sm (fun j => A.B j 5) a) := (n12 _ _ _ _ (by decide)).trans ((n12 _ _ _ _ (by decide)).trans s4)
  have u5 : upd (upd (upd T.2 (2 : Int).toNat (iI (sm (fun j => A.B j 4) a + A.B i 4))) (3 : Int).toNat (iI (sm (fun j => A.B j 6) a + A.B i 6))) (4 : Int).toNat (iI (sm (fun j => A.B j 5) a + A.B i 5)) (5 : Int).toNat = iI (sm (rsum A) a) := (n12 _ _ _ _ (by decide)).trans ((n12 _ _ _ _ (by decide)).trans ((n12 _ _ _ _ (by decide)).trans s5))
  obtain ⟨m1, m2, m3⟩ := hm
  obtain ⟨hi1, hi2⟩ := hi
  unfold stT
  generalize sm (fun j => if A.B j 3 = A.B i 3 then 1 else 0) a = c0 at t0 ⊢
  generalize sm (fun j => A.B j 4) a = c4 at s2 u3 u4 u5 ⊢
  generalize sm (fun j => A.B j 6) a = c6 at u3 u4 u5 ⊢
  generalize sm (fun j => A.B j 5) a = c5 at u4 u5 ⊢
  generalize sm (rsum A) a = cr at u5 ⊢
  clear h hL h1 n12 s1 s3 s4 s5 s6
  simp (disch := omega) only [eq_self, MoI, nmD, bdS, b2S, lit32, iA, iS, iM, iN, iLt, iLe, iE, zlT, zlF, zleT, zleF, zeT, zeF, RdI, WrI, DvI, jmaxI, jminI, jabsI, bI0, Zb0, Zb1, ZbI, ↓reduceIte, not_true_eq_false, not_false_eq_true, ite_not, and_true, true_and, and_false, false_and, and_self, fL_isSo2_j454, b3, b4, b5, b6, t0, s2, u3, u4, u5]
theorem is210 (h : InvX K N0.1 A) (hL : RepL N0.2 A G) (hm : Sma A) (kk : XSm → Int32 → Option (Int32 × XSm)) : ∀ (n fu : Nat) (i : Int) (a : Nat) (T : (Nat → Int32) × (Nat → Int32)), i = a → i + n = A.nB → n < fu → SS T A a 0 → ∃ T' : (Nat → Int32) × (Nat → Int32), fL_isSo2_l210 kk fu (N0, T) (iI 1) (iI i) = kk (N0, T') (iI 1) ∧ SS T' A A.nB.toNat 0 := by
  have hn := h.W.n
  have g1 := hL.g1
  obtain ⟨ow, st, hQ⟩ := hL.2.2.2.2.2
  intro n
  induction n with
  | zero =>
    intro fu i a T hia k1 k2 hs
    obtain ⟨fu, rfl⟩ : ∃ q, fu = q + 1 := ⟨fu - 1, by omega⟩
    have ea : a = A.nB.toNat := by omega
    rw [ea] at hs
    refine ⟨T, ?_, hs⟩
    rw [fL_isSo2_l210_s]
    clear h hL hQ hs
    obtain ⟨m1, m2, m3⟩ := hm
    simp (disch := omega) only [eq_self, MoI, nmD, bdS, b2S, lit32, iA, iS, iM, iN, iLt, iLe, iE, zlT, zlF, zleT, zleF, zeT, zeF, RdI, WrI, DvI, jmaxI, jminI, jabsI, bI0, Zb0, Zb1, ZbI, ↓reduceIte, not_true_eq_false, not_false_eq_true, ite_not, and_true, true_and, and_false, false_and, and_self, g1]
  | succ n ih =>
    intro fu i a T hia k1 k2 hs
    obtain ⟨fu, rfl⟩ : ∃ q, fu = q + 1 := ⟨fu - 1, by omega⟩
    have hi : 0 ≤ i ∧ i < A.nB := ⟨by omega, by omega⟩
    have hb := h.W.b hi.1 hi.2
    obtain ⟨T', f1, f2⟩ := ih fu (i + 1) (a + 1) (stT T A a i) (by omega) (by omega) (by omega) (hs.stp hia hb.2.2.2.1)
    refine ⟨T', ?_, f2⟩
    rw [← f1, ← is454 h hL hm hi hia hs kk (fL_isSo2_l210 kk fu), fL_isSo2_l210_s]
    have hpd := lPaid hL h.W hm hi.1 hi.2
    have e241 := fun x7 x12 kk => is241 (T := T) h hL hm hQ hi x7 x12 kk
    have e294 := fun x11 x12 kk => is294 (T := T) h hL hm hi x11 x12 kk 6 FU 0 (by omega) (by omega) (by unfold FU; omega)
    have e6 := rBook6 h.X h.W hi
    have e7 := rBook7 h.X h.W (y := 7) hi (by omega)
    have e8 := rBook7 h.X h.W (y := 8) hi (by omega)
    have e9 := rBook7 h.X h.W (y := 9) hi (by omega)
    have e10 := rBook10 h.X h.W hi
    have b5 := hL.B (i := i) (c := 5) hi.1 hi.2 (by omega) (by omega)
    have b6 := hL.B (i := i) (c := 6) hi.1 hi.2 (by omega) (by omega)
    have b7 := hL.B (i := i) (c := 7) hi.1 hi.2 (by omega) (by omega)
    have b8 := hL.B (i := i) (c := 8) hi.1 hi.2 (by omega) (by omega)
    have z7 : A.B i (7 - 1) = A.B i 6 := rfl
    have z8 : A.B i (8 - 1) = A.B i 7 := rfl
    have z9 : A.B i (9 - 1) = A.B i 8 := rfl
    have z5 : A.B i 5 + rsum A i - A.B i 5 = rsum A i := by omega
    rw [z7] at e7
    rw [z8] at e8
    rw [z9] at e9
    obtain ⟨m1, m2, m3⟩ := hm
    obtain ⟨hi1, hi2⟩ := hi
    clear ih h hL hQ f1 f2 hs hb z7 z8 z9
    simp (disch := omega) only [eq_self, MoI, nmD, bdS, b2S, lit32, iA, iS, iM, iN, iLt, iLe, iE, zlT, zlF, zleT, zleF, zeT, zeF, RdI, WrI, DvI, jmaxI, jminI, jabsI, bI0, Zb0, Zb1, ZbI, ↓reduceIte, not_true_eq_false, not_false_eq_true, ite_not, and_true, true_and, and_false, false_and, and_self, g1, hpd, e241, e294, e6, e7, e8, e9, e10, b5, b6, b7, b8, z5, pe_eta]
end IS1
section IS2
variable {N0 : XLm} {A : Ab} {K G : Int} {T : (Nat → Int32) × (Nat → Int32)}
theorem is587_1 (h : InvX K N0.1 A) (hL : RepL N0.2 A G) (hm : Sma A) (v x11 i : Int32) (kk : XSm → Int32 → Option (Int32 × XSm)) : ∀ (k fu : Nat) (p : Int), 0 ≤ p → p + k = A.nB → k < fu → fL_isSo2_l587 v x11 i kk fu (N0, T) (iI 1) (iI p) = kk (N0, T) (iI 1) := by
  have hn := h.W.n
  have g1 := hL.g1
  obtain ⟨m1, m2, m3⟩ := hm
  intro k
  induction k with
  | zero =>
    intro fu p p0 p1 p2
    obtain ⟨fu, rfl⟩ : ∃ q, fu = q + 1 := ⟨fu - 1, by omega⟩
    rw [fL_isSo2_l587_s]
    clear h hL
    simp (disch := omega) only [eq_self, MoI, nmD, bdS, b2S, lit32, iA, iS, iM, iN, iLt, iLe, iE, zlT, zlF, zleT, zleF, zeT, zeF, RdI, WrI, DvI, jmaxI, jminI, jabsI, bI0, Zb0, Zb1, ZbI, ↓reduceIte, not_true_eq_false, not_false_eq_true, ite_not, and_true, true_and, and_false, false_and, and_self, g1]
  | succ k ih =>
    intro fu p p0 p1 p2
    obtain ⟨fu, rfl⟩ : ∃ q, fu = q + 1 := ⟨fu - 1, by omega⟩
    rw [← ih fu (p + 1) (by omega) (by omega) (by omega), fL_isSo2_l587_s]
    clear ih h hL
    simp (disch := omega) only [eq_self, MoI, nmD, bdS, b2S, lit32, iA, iS, iM, iN, iLt, iLe, iE, zlT, zlF, zleT, zleF, zeT, zeF, RdI, WrI, DvI, jmaxI, jminI, jabsI, bI0, Zb0, Zb1, ZbI, ↓reduceIte, not_true_eq_false, not_false_eq_true, ite_not, and_true, true_and, and_false, false_and, and_self, g1, fL_isSo2_j638, fL_isSo2_j643]
theorem is587 (h : InvX K N0.1 A) (hL : RepL N0.2 A G) (hm : Sma A) {ow st : Int → Int} (hQ : RQ N0.2.2.2.2.2.1 A G ow st) {v i : Int} (hwv : 0 ≤ v ∧ v < A.nV) (hi : 0 ≤ i ∧ i < A.nB) (x11 : Int32) (kk : XSm → Int32 → Option (Int32 × XSm)) : fL_isSo2_l587 (iI v) x11 (iI i) kk FU (N0, T) (iI 0) (iI 0) = kk (N0, T) (iI (hv A v i)) := by
  have hn := h.W.n
  have g1 := hL.g1
  have hm0 := hm
  obtain ⟨m1, m2, m3⟩ := hm
  have key : ∀ (k fu : Nat) (p : Int), 0 ≤ p → p + k = A.nB → k < fu → ((∃ y : Int, p ≤ y ∧ y < A.nB ∧ ow y = i ∧ A.F y = v ∧ 0 < A.U y) ∧ fL_isSo2_l587 (iI v) x11 (iI i) kk fu (N0, T) (iI 0) (iI p) = kk (N0, T) (iI 1)) ∨ ((¬ ∃ y : Int, p ≤ y ∧ y < A.nB ∧ ow y = i ∧ A.F y = v ∧ 0 < A.U y) ∧ fL_isSo2_l587 (iI v) x11 (iI i) kk fu (N0, T) (iI 0) (iI p) = kk (N0, T) (iI 0)) := by
    intro k
    induction k with
    | zero =>
      intro fu p p0 p1 p2
      obtain ⟨fu, rfl⟩ : ∃ q, fu = q + 1 := ⟨fu - 1, by omega⟩
      refine Or.inr ⟨fun ⟨y, y0, y1, _⟩ => by omega, ?_⟩
      rw [fL_isSo2_l587_s]
      clear h hL hQ
      simp (disch := omega) only [eq_self, MoI, nmD, bdS, b2S, lit32, iA, iS, iM, iN, iLt, iLe, iE, zlT, zlF, zleT, zleF, zeT, zeF, RdI, WrI, DvI, jmaxI, jminI, jabsI, bI0, Zb0, Zb1, ZbI, ↓reduceIte, not_true_eq_false, not_false_eq_true, ite_not, and_true, true_and, and_false, false_and, and_self, g1]
    | succ k ih =>
      intro fu p p0 p1 p2
      obtain ⟨fu, rfl⟩ : ∃ q, fu = q + 1 := ⟨fu - 1, by omega⟩
      obtain ⟨o2, o3, o4, o5, o6⟩ := hQ.1 p p0 (by omega)
      have h1 := is587_1 (T := T) h hL hm0 (iI v) x11 (iI i) kk k fu (p + 1) (by omega) (by omega) (by omega)
      have h0 := ih fu (p + 1) (by omega) (by omega) (by omega)
      have skip : ¬ (ow p = i ∧ A.F p = v ∧ 0 < A.U p) → fL_isSo2_l587 (iI v) x11 (iI i) kk (fu + 1) (N0, T) (iI 0) (iI p) = fL_isSo2_l587 (iI v) x11 (iI i) kk fu (N0, T) (iI 0) (iI (p + 1)) → ((∃ y : Int, p ≤ y ∧ y < A.nB ∧ ow y = i ∧ A.F y = v ∧ 0 < A.U y) ∧ fL_isSo2_l587 (iI v) x11 (iI i) kk (fu + 1) (N0, T) (iI 0) (iI p) = kk (N0, T) (iI 1)) ∨ ((¬ ∃ y : Int, p ≤ y ∧ y < A.nB ∧ ow y = i ∧ A.F y = v ∧ 0 < A.U y) ∧ fL_isSo2_l587 (iI v) x11 (iI i) kk (fu + 1) (N0, T) (iI 0) (iI p) = kk (N0, T) (iI 0)) := fun hno e => by
        rw [e]
        rcases h0 with ⟨⟨y, y0, y1⟩, q⟩ | ⟨q1, q⟩
        · exact Or.inl ⟨⟨y, by omega, y1⟩, q⟩
        · refine Or.inr ⟨fun ⟨y, y0, y1, y2⟩ => ?_, q⟩
          by_cases ey : y = p
          · rw [ey] at y2; exact hno y2
          · exact q1 ⟨y, by omega, y1, y2⟩
      obtain ⟨hi1, hi2⟩ := hi
      obtain ⟨hv1, hv2⟩ := hwv
      by_cases c : ow p = i
      · obtain ⟨o7, o8, o9⟩ := o6 (by omega)
        have hpw := h.W.p (i := ow p) (by omega) (by omega) o9
        have hf := hpw.2.1
        have hu := hpw.2.2.1
        clear hpw o9 o6
        by_cases c2 : A.F p = v
        · by_cases c3 : 0 < A.U p
          · refine Or.inl ⟨⟨p, by omega, by omega, c, c2, c3⟩, ?_⟩
            rw [← h1, fL_isSo2_l587_s]
            clear ih h h1 h0 hL hQ skip
            simp (disch := omega) only [eq_self, MoI, nmD, bdS, b2S, lit32, iA, iS, iM, iN, iLt, iLe, iE, zlT, zlF, zleT, zleF, zeT, zeF, RdI, WrI, DvI, jmaxI, jminI, jabsI, bI0, Zb0, Zb1, ZbI, ↓reduceIte, not_true_eq_false, not_false_eq_true, ite_not, and_true, true_and, and_false, false_and, and_self, g1, o2, o7, o8, c, c2, fL_isSo2_j638, fL_isSo2_j643]
          · refine skip (fun q => c3 q.2.2) ?_
            rw [fL_isSo2_l587_s]
            clear ih h h1 h0 hL hQ skip
            simp (disch := omega) only [eq_self, MoI, nmD, bdS, b2S, lit32, iA, iS, iM, iN, iLt, iLe, iE, zlT, zlF, zleT, zleF, zeT, zeF, RdI, WrI, DvI, jmaxI, jminI, jabsI, bI0, Zb0, Zb1, ZbI, ↓reduceIte, not_true_eq_false, not_false_eq_true, ite_not, and_true, true_and, and_false, false_and, and_self, g1, o2, o7, o8, c, c2, fL_isSo2_j642, fL_isSo2_j643]
        · refine skip (fun q => c2 q.2.1) ?_
          rw [fL_isSo2_l587_s]
          clear ih h h1 h0 hL hQ skip
          simp (disch := omega) only [eq_self, MoI, nmD, bdS, b2S, lit32, iA, iS, iM, iN, iLt, iLe, iE, zlT, zlF, zleT, zleF, zeT, zeF, RdI, WrI, DvI, jmaxI, jminI, jabsI, bI0, Zb0, Zb1, ZbI, ↓reduceIte, not_true_eq_false, not_false_eq_true, ite_not, and_true, true_and, and_false, false_and, and_self, g1, o2, o7, o8, c, fL_isSo2_j642, fL_isSo2_j643]
      · refine skip (fun q => c q.1) ?_
        rw [fL_isSo2_l587_s]
        clear ih h h1 h0 hL hQ skip o6
        simp (disch := omega) only [eq_self, MoI, nmD, bdS, b2S, lit32, iA, iS, iM, iN, iLt, iLe, iE, zlT, zlF, zleT, zleF, zeT, zeF, RdI, WrI, DvI, jmaxI, jminI, jabsI, bI0, Zb0, Zb1, ZbI, ↓reduceIte, not_true_eq_false, not_false_eq_true, ite_not, and_true, true_and, and_false, false_and, and_self, g1, o2, fL_isSo2_j642, fL_isSo2_j643]
  have hex : (∃ y : Int, 0 ≤ y ∧ y < A.nB ∧ ow y = i ∧ A.F y = v ∧ 0 < A.U y) ↔ hs A v i := ⟨fun ⟨y, y0, y1, y2, y3⟩ => by
    have := ((hQ.1 y y0 y1).2.2.2.2 (by omega)).2.2
    rw [y2] at this
    exact ⟨y, this, y3⟩, fun ⟨y, y0, y1⟩ => by
    have := (h.W.p hi.1 hi.2 y0).1
    exact ⟨y, this.1, this.2, hQ.2.1 i y hi.1 hi.2 y0, y1⟩⟩
  rcases key A.nB.toNat FU 0 (by omega) (by omega) (by unfold FU; omega) with ⟨q1, q2⟩ | ⟨q1, q2⟩
  · rw [q2, hv_t (hex.mp q1)]
  · rw [q2, hv_f (fun z => q1 (hex.mpr z))]
theorem is573 (h : InvX K N0.1 A) (hL : RepL N0.2 A G) (hm : Sma A) {v : Int} (hwv : 0 ≤ v ∧ v < A.nV) (kk : XSm → Int32 → Option (Int32 × XSm)) : fL_isSo2_l573 (iI v) kk FU (N0, T) (iI 0) (iI 0) = kk (N0, T) (iI (sm (hv A v) A.nB.toNat)) := by
  have hn := h.W.n
  have g1 := hL.g1
  obtain ⟨ow, st, hQ⟩ := hL.2.2.2.2.2
  have key : ∀ (k fu : Nat) (i a : Int), 0 ≤ i → i + k = A.nB → k < fu → fL_isSo2_l573 (iI v) kk fu (N0, T) (iI a) (iI i) = kk (N0, T) (iI (lp (fun j b => b + hv A v j) k i a)) := by
    intro k
    induction k with
    | zero =>
      intro fu i a i0 i1 i2
      obtain ⟨fu, rfl⟩ : ∃ q, fu = q + 1 := ⟨fu - 1, by omega⟩
      obtain ⟨m1, m2, m3⟩ := hm
      rw [fL_isSo2_l573_s, lp_z]
      clear h hL hQ
      simp (disch := omega) only [eq_self, MoI, nmD, bdS, b2S, lit32, iA, iS, iM, iN, iLt, iLe, iE, zlT, zlF, zleT, zleF, zeT, zeF, RdI, WrI, DvI, jmaxI, jminI, jabsI, bI0, Zb0, Zb1, ZbI, ↓reduceIte, not_true_eq_false, not_false_eq_true, ite_not, and_true, true_and, and_false, false_and, and_self, g1]
    | succ k ih =>
      intro fu i a i0 i1 i2
      obtain ⟨fu, rfl⟩ : ∃ q, fu = q + 1 := ⟨fu - 1, by omega⟩
      have e := fun x11 kk => is587 (T := T) h hL hm hQ hwv (i := i) ⟨i0, by omega⟩ x11 kk
      obtain ⟨m1, m2, m3⟩ := hm
      rw [fL_isSo2_l573_s, lp_s, ← ih fu (i + 1) (a + hv A v i) (by omega) (by omega) (by omega)]
      by_cases c : hs A v i
      · rw [hv_t c] at e ⊢
        clear ih h hL hQ
        simp (disch := omega) only [eq_self, MoI, nmD, bdS, b2S, lit32, iA, iS, iM, iN, iLt, iLe, iE, zlT, zlF, zleT, zleF, zeT, zeF, RdI, WrI, DvI, jmaxI, jminI, jabsI, bI0, Zb0, Zb1, ZbI, ↓reduceIte, not_true_eq_false, not_false_eq_true, ite_not, and_true, true_and, and_false, false_and, and_self, g1, e, fL_isSo2_j663]
      · rw [hv_f c] at e ⊢
        clear ih h hL hQ
        simp (disch := omega) only [eq_self, MoI, nmD, bdS, b2S, lit32, iA, iS, iM, iN, iLt, iLe, iE, zlT, zlF, zleT, zleF, zeT, zeF, RdI, WrI, DvI, jmaxI, jminI, jabsI, bI0, Zb0, Zb1, ZbI, ↓reduceIte, not_true_eq_false, not_false_eq_true, ite_not, and_true, true_and, and_false, false_and, and_self, g1, e, fL_isSo2_j663]
  have e := key A.nB.toNat FU 0 0 (by omega) (by omega) (by unfold FU; omega)
  rw [lp_sum0] at e
  exact e
def svT (T : (Nat → Int32) × (Nat → Int32)) (A : Ab) (b : Nat) (v : Int) : (Nat → Int32) × (Nat → Int32) := (T.1, upd (upd T.2 (1 : Int).toNat (iI (sm (fun v => A.V v 1) b + A.V v 1))) (6 : Int).toNat (iI (sm (fun v => A.V v 0) b + A.V v 0)))
theorem SS.svp {a b : Nat} {v : Int} (hs : SS T A a b) (hwv : v = b) : SS (svT T A b v) A a (b + 1) := by
  subst hwv
  obtain ⟨h1, s1, s2, s3, s4, s5, s6⟩ := hs
  have n12 : ∀ (f : Nat → Int32) (v : Int32) (x y : Nat), x ≠ y → upd f x v y = f y := fun f v x y q => if_neg (fun z => q z.symm)
  refine ⟨h1, ?_, ?_, ?_, ?_, ?_, ?_⟩
  · dsimp only [svT]
    rw [n12 _ _ _ _ (by decide), ud_s]
    rfl
  · dsimp only [svT]
    rw [n12 _ _ _ _ (by decide), n12 _ _ _ _ (by decide)]
    exact s2
  · dsimp only [svT]
    rw [n12 _ _ _ _ (by decide), n12 _ _ _ _ (by decide)]
    exact s3
  · dsimp only [svT]
    rw [n12 _ _ _ _ (by decide), n12 _ _ _ _ (by decide)]
    exact s4
  · dsimp only [svT]
    rw [n12 _ _ _ _ (by decide), n12 _ _ _ _ (by decide)]
    exact s5
  · dsimp only [svT]
    rw [ud_s]
    rfl
theorem is554 (h : InvX K N0.1 A) (hL : RepL N0.2 A G) (hm : Sma A) (kk : XSm → Int32 → Option (Int32 × XSm)) : ∀ (n fu : Nat) (v : Int) (b : Nat) (T : (Nat → Int32) × (Nat → Int32)), v = b → v + n = A.nV → n < fu → SS T A A.nB.toNat b → ∃ T' : (Nat → Int32) × (Nat → Int32), fL_isSo2_l554 kk fu (N0, T) (iI 1) (iI v) = kk (N0, T') (iI 1) ∧ SS T' A A.nB.toNat A.nV.toNat := by
  have hn := h.W.n
  have g2 := hL.g2
  intro n
  induction n with
  | zero =>
    intro fu v b T hvb k1 k2 hs
    obtain ⟨fu, rfl⟩ : ∃ q, fu = q + 1 := ⟨fu - 1, by omega⟩
    have eb : b = A.nV.toNat := by omega
    rw [eb] at hs
    refine ⟨T, ?_, hs⟩
    rw [fL_isSo2_l554_s]
    clear h hL hs
    obtain ⟨m1, m2, m3⟩ := hm
    simp (disch := omega) only [eq_self, MoI, nmD, bdS, b2S, lit32, iA, iS, iM, iN, iLt, iLe, iE, zlT, zlF, zleT, zleF, zeT, zeF, RdI, WrI, DvI, jmaxI, jminI, jabsI, bI0, Zb0, Zb1, ZbI, ↓reduceIte, not_true_eq_false, not_false_eq_true, ite_not, and_true, true_and, and_false, false_and, and_self, g2]
  | succ n ih =>
    intro fu v b T hvb k1 k2 hs
    obtain ⟨fu, rfl⟩ : ∃ q, fu = q + 1 := ⟨fu - 1, by omega⟩
    have hwv : 0 ≤ v ∧ v < A.nV := ⟨by omega, by omega⟩
    obtain ⟨T', f1, f2⟩ := ih fu (v + 1) (b + 1) (svT T A b v) (by omega) (by omega) (by omega) (hs.svp hvb)
    refine ⟨T', ?_, f2⟩
    rw [← f1, fL_isSo2_l554_s]
    have e573 := fun kk => is573 (T := T) h hL hm hwv kk
    have e0 := rVou h.X h.W (x := v) (y := 0) hwv (by omega)
    have e1 := rVou h.X h.W (x := v) (y := 1) hwv (by omega)
    have e2 := rVou2 h.X h.W (x := v) hwv
    have v0 := hL.V0 (v := v) hwv.1 hwv.2
    have v1 := hL.V (v := v) (c := 1) hwv.1 hwv.2 (by omega) (by omega)
    obtain ⟨h1, s1, s2, s3, s4, s5, s6⟩ := hs
    have n12 : ∀ (f : Nat → Int32) (v : Int32) (x y : Nat), x ≠ y → upd f x v y = f y := fun f v x y q => if_neg (fun z => q z.symm)
    have u6 : upd T.2 (1 : Int).toNat (iI (sm (fun v => A.V v 1) b + A.V v 1)) (6 : Int).toNat = iI (sm (fun v => A.V v 0) b) := (n12 _ _ _ _ (by decide)).trans s6
    obtain ⟨m1, m2, m3⟩ := hm
    obtain ⟨hv1, hv2⟩ := hwv
    unfold svT
    generalize sm (fun v => A.V v 1) b = c1 at s1 u6 ⊢
    generalize sm (fun v => A.V v 0) b = c0 at u6 ⊢
    clear ih h hL f1 f2 h1 s2 s3 s4 s5 s6 n12
    simp (disch := omega) only [eq_self, MoI, nmD, bdS, b2S, lit32, iA, iS, iM, iN, iLt, iLe, iE, zlT, zlF, zleT, zleF, zeT, zeF, RdI, WrI, DvI, jmaxI, jminI, jabsI, bI0, Zb0, Zb1, ZbI, ↓reduceIte, not_true_eq_false, not_false_eq_true, ite_not, and_true, true_and, and_false, false_and, and_self, g2, e573, e0, e1, e2, v0, v1, s1, u6, pe_eta, fL_isSo2_j756]
theorem cst_sm (A : Ab) (x : Int) : cst A x = sm (fun j => if A.B j 3 = x then 1 else 0) A.nB.toNat := by
  have e : (fun (j b : Int) => if A.B j 3 = x then b + 1 else b) = fun j b => b + (if A.B j 3 = x then 1 else 0) := by
    funext j b
    split <;> omega
  unfold cst
  rw [e, lp_sum0]
theorem is767 (h : InvX K N0.1 A) (hL : RepL N0.2 A G) (hs : SS T A A.nB.toNat A.nV.toNat) (kk : XSm → Int32 → Option (Int32 × XSm)) : ∀ (n fu : Nat) (k : Int), 0 ≤ k → k + n = 5 → n < fu → fL_isSo2_l767 kk fu (N0, T) (iI 1) (iI k) = kk (N0, T) (iI 1) := by
  intro n
  induction n with
  | zero =>
    intro fu k k0 k1 k2
    obtain ⟨fu, rfl⟩ : ∃ q, fu = q + 1 := ⟨fu - 1, by omega⟩
    rw [fL_isSo2_l767_s]
    clear h hL hs
    simp (disch := omega) only [eq_self, MoI, nmD, bdS, b2S, lit32, iA, iS, iM, iN, iLt, iLe, iE, zlT, zlF, zleT, zleF, zeT, zeF, RdI, WrI, DvI, jmaxI, jminI, jabsI, bI0, Zb0, Zb1, ZbI, ↓reduceIte, not_true_eq_false, not_false_eq_true, ite_not, and_true, true_and, and_false, false_and, and_self]
  | succ n ih =>
    intro fu k k0 k1 k2
    obtain ⟨fu, rfl⟩ : ∃ q, fu = q + 1 := ⟨fu - 1, by omega⟩
    have e1 := rCntS h (x := k) (by omega)
    have e2 := hL.e (k := k) k0 (by omega)
    rw [← ih fu (k + 1) (by omega) (by omega) (by omega), fL_isSo2_l767_s]
    by_cases c : k = 4
    · clear ih h hL hs
      simp (disch := omega) only [eq_self, MoI, nmD, bdS, b2S, lit32, iA, iS, iM, iN, iLt, iLe, iE, zlT, zlF, zleT, zleF, zeT, zeF, RdI, WrI, DvI, jmaxI, jminI, jabsI, bI0, Zb0, Zb1, ZbI, ↓reduceIte, not_true_eq_false, not_false_eq_true, ite_not, and_true, true_and, and_false, false_and, and_self, e1, e2, pe_eta, fL_isSo2_j817, fL_isSo2_j822]
    · have e3 := rCntB h (x := k) (by omega)
      have e4 := hs.1 k k0 (by omega)
      rw [← cst_sm] at e4
      clear ih h hL hs
      simp (disch := omega) only [eq_self, MoI, nmD, bdS, b2S, lit32, iA, iS, iM, iN, iLt, iLe, iE, zlT, zlF, zleT, zleF, zeT, zeF, RdI, WrI, DvI, jmaxI, jminI, jabsI, bI0, Zb0, Zb1, ZbI, ↓reduceIte, not_true_eq_false, not_false_eq_true, ite_not, and_true, true_and, and_false, false_and, and_self, e1, e2, e3, e4, pe_eta, fL_isSo2_j817, fL_isSo2_j822]
theorem is833 (h : InvX K N0.1 A) (hL : RepL N0.2 A G) (hs : SS T A A.nB.toNat A.nV.toNat) (kk : XSm → Int32 → Option (Int32 × XSm)) : ∀ (n fu : Nat) (k : Int), 1 ≤ k → k + n = 7 → n < fu → fL_isSo2_l833 kk fu (N0, T) (iI 1) (iI k) = kk (N0, T) (iI 1) := by
  intro n
  induction n with
  | zero =>
    intro fu k k0 k1 k2
    obtain ⟨fu, rfl⟩ : ∃ q, fu = q + 1 := ⟨fu - 1, by omega⟩
    rw [fL_isSo2_l833_s]
    clear h hL hs
    simp (disch := omega) only [eq_self, MoI, nmD, bdS, b2S, lit32, iA, iS, iM, iN, iLt, iLe, iE, zlT, zlF, zleT, zleF, zeT, zeF, RdI, WrI, DvI, jmaxI, jminI, jabsI, bI0, Zb0, Zb1, ZbI, ↓reduceIte, not_true_eq_false, not_false_eq_true, ite_not, and_true, true_and, and_false, false_and, and_self]
  | succ n ih =>
    intro fu k k0 k1 k2
    obtain ⟨fu, rfl⟩ : ∃ q, fu = q + 1 := ⟨fu - 1, by omega⟩
    have key : ∃ w : Int, fX8_money N0.1 (iI k) = some (iI w, N0.1) ∧ T.2 k.toNat = iI w := by
      obtain ⟨h1, s1, s2, s3, s4, s5, s6⟩ := hs
      rcases (show k = 1 ∨ k = 2 ∨ k = 3 ∨ k = 4 ∨ k = 5 ∨ k = 6 by omega) with rfl | rfl | rfl | rfl | rfl | rfl
      · exact ⟨_, rMon1 h.X h.W, s1⟩
      · exact ⟨_, rMon2 h.X h.W, s2⟩
      · exact ⟨_, rMon3 h.X h.W, s3⟩
      · exact ⟨_, rMon4 h.X h.W, s4⟩
      · exact ⟨_, rMon5 h.X h.W, s5⟩
      · exact ⟨_, rMon6 h.X h.W, s6⟩
    obtain ⟨w, e1, e2⟩ := key
    rw [← ih fu (k + 1) (by omega) (by omega) (by omega), fL_isSo2_l833_s]
    clear ih h hL hs
    simp (disch := omega) only [eq_self, MoI, nmD, bdS, b2S, lit32, iA, iS, iM, iN, iLt, iLe, iE, zlT, zlF, zleT, zleF, zeT, zeF, RdI, WrI, DvI, jmaxI, jminI, jabsI, bI0, Zb0, Zb1, ZbI, ↓reduceIte, not_true_eq_false, not_false_eq_true, ite_not, and_true, true_and, and_false, false_and, and_self, e1, e2, pe_eta, fL_isSo2_j864]
theorem isSo_ok {N : XLm} (hI : InvP K N) : fL_isSo N = some (iI 1, N) := by
  obtain ⟨A, G, h, hL, hG, hm, hM⟩ := hI
  have hn := h.W.n
  have g0 := hL.g0
  have g1 := hL.g1
  have g2 := hL.g2
  have g3 := hL.g3
  have s00 : SS ((fun _ => 0), (fun _ => 0)) A 0 0 := ⟨fun x _ _ => rfl, rfl, rfl, rfl, rfl, rfl, rfl⟩
  have last : ∀ T : (Nat → Int32) × (Nat → Int32), SS T A A.nB.toNat A.nV.toNat → ∃ T' : (Nat → Int32) × (Nat → Int32), fL_isSo2_j78 (N, (fun _ => 0), (fun _ => 0)) (iI 1) = some (iI 1, (N, T')) := by
    intro _ _
    unfold fL_isSo2_j78
    refine Exists.imp (fun T' e => (is81 (T := ((fun _ => 0), (fun _ => 0))) h hL hm _ A.nR.toNat FU 0 (by omega) (by omega) (by unfold FU; omega)).trans e) ?_
    obtain ⟨T1, e1, t1⟩ := is210 h hL hm (fun M99 y98 => fL_isSo2_l554 (fun M146 y145 => fL_isSo2_l767 (fun M162 y161 => fL_isSo2_l833 (fun M172 y171 => if y171 = 0 then (Zb 0 (some (0, M172))) else (Rd (M172.1.2.1) 5 0 fun v174 => b2 (fX8_room (M172.1.1) v174 0) fun r176 M175 => nm (((M175, M172.1.2), M172.2)) fun M177 => if r176 = (-1) then (Rd (M177.1.2.1) 5 1 fun v179 => b2 (fX8_booking (M177.1.1) v179 0) fun r181 M180 => nm (((M180, M177.1.2), M177.2)) fun M182 => if r181 = (-1) then (Rd (M182.1.2.1) 5 2 fun v184 => b2 (fX8_voucher (M182.1.1) v184 0) fun r186 M185 => nm (((M185, M182.1.2), M182.2)) fun M187 => if r186 = (-1) then (b2 (fX8_money (M187.1.1) 0) fun r190 M189 => nm (((M189, M187.1.2), M187.2)) fun M191 => Rd (M191.2.2) 7 6 fun v192 => Rd (M191.2.2) 7 4 fun v193 => if r190 = (v192 + v193) then (Rd (M191.2.2) 7 6 fun v195 => Rd (M191.2.2) 7 1 fun v196 => Rd (M191.2.2) 7 5 fun v197 => if v195 = (v196 + v197) then (Zb 1 (some (1, M191))) else (Zb 0 (some (0, M191)))) else (Zb 0 (some (0, M191)))) else (Zb 0 (some (0, M187)))) else (Zb 0 (some (0, M182)))) else (Zb 0 (some (0, M177))))) FU M162 y161 1) FU M146 y145 0) FU M99 y98 0) A.nB.toNat FU 0 0 ((fun _ => 0), (fun _ => 0)) (by omega) (by omega) (by unfold FU; omega) s00
    refine Exists.imp (fun T' e => e1.trans e) ?_
    obtain ⟨T2, e2, t2⟩ := is554 h hL hm (fun M146 y145 => fL_isSo2_l767 (fun M162 y161 => fL_isSo2_l833 (fun M172 y171 => if y171 = 0 then (Zb 0 (some (0, M172))) else (Rd (M172.1.2.1) 5 0 fun v174 => b2 (fX8_room (M172.1.1) v174 0) fun r176 M175 => nm (((M175, M172.1.2), M172.2)) fun M177 => if r176 = (-1) then (Rd (M177.1.2.1) 5 1 fun v179 => b2 (fX8_booking (M177.1.1) v179 0) fun r181 M180 => nm (((M180, M177.1.2), M177.2)) fun M182 => if r181 = (-1) then (Rd (M182.1.2.1) 5 2 fun v184 => b2 (fX8_voucher (M182.1.1) v184 0) fun r186 M185 => nm (((M185, M182.1.2), M182.2)) fun M187 => if r186 = (-1) then (b2 (fX8_money (M187.1.1) 0) fun r190 M189 => nm (((M189, M187.1.2), M187.2)) fun M191 => Rd (M191.2.2) 7 6 fun v192 => Rd (M191.2.2) 7 4 fun v193 => if r190 = (v192 + v193) then (Rd (M191.2.2) 7 6 fun v195 => Rd (M191.2.2) 7 1 fun v196 => Rd (M191.2.2) 7 5 fun v197 => if v195 = (v196 + v197) then (Zb 1 (some (1, M191))) else (Zb 0 (some (0, M191)))) else (Zb 0 (some (0, M191)))) else (Zb 0 (some (0, M187)))) else (Zb 0 (some (0, M182)))) else (Zb 0 (some (0, M177))))) FU M162 y161 1) FU M146 y145 0) A.nV.toNat FU 0 0 T1 (by omega) (by omega) (by unfold FU; omega) t1
    refine Exists.imp (fun T' e => e2.trans e) ?_
    refine Exists.imp (fun T' e => (is767 h hL t2 _ 5 FU 0 (by omega) (by omega) (by unfold FU; omega)).trans e) ?_
    refine Exists.imp (fun T' e => (is833 h hL t2 _ 6 FU 1 (by omega) (by omega) (by unfold FU; omega)).trans e) ?_
    refine ⟨T2, ?_⟩
    have q1 := rRoomO h.X h.W (x := A.nR) (y := iI 0) (by omega) (by omega) (by omega)
    have q2 := rBookO h.X h.W (x := A.nB) (y := iI 0) (by omega) (by omega) (by omega)
    have q3 := rVouO h.X h.W (x := A.nV) (y := iI 0) (by omega) (by omega) (by omega)
    have q4 := rMon0 h.X
    obtain ⟨-, s1, -, -, s4, s5, s6⟩ := t2
    obtain ⟨x1, x2⟩ := hM
    obtain ⟨m1, m2, m3⟩ := hm
    rw [x1] at q4
    generalize sm (fun v => A.V v 0) A.nV.toNat = w0 at s6 x2 q4
    generalize sm (fun v => A.V v 1) A.nV.toNat = w1 at s1 x2
    generalize sm (rsum A) A.nB.toNat = wr at s5 x2
    generalize sm (fun b => A.B b 5) A.nB.toNat = w5 at s4 q4
    subst x2
    clear h hL e1 e2 t1 x1 g3
    simp (disch := omega) only [eq_self, MoI, nmD, bdS, b2S, lit32, iA, iS, iM, iN, iLt, iLe, iE, zlT, zlF, zleT, zleF, zeT, zeF, RdI, WrI, DvI, jmaxI, jminI, jabsI, bI0, Zb0, Zb1, ZbI, ↓reduceIte, not_true_eq_false, not_false_eq_true, ite_not, and_true, true_and, and_false, false_and, and_self, g0, g1, g2, q1, q2, q3, q4, s1, s4, s5, s6, pe_eta]
  have c0 := rCnt0 h
  have c1 := rCnt1 h
  have c2 := rCnt2 h
  have c3 := rCnt3 h
  have c5 := rCnt5 h
  have m0 := rMon0 h.X
  have hT : ∃ T : (Nat → Int32) × (Nat → Int32), SS T A A.nB.toNat A.nV.toNat := by
    obtain ⟨T1, -, t1⟩ := is210 h hL hm (fun M _ => none) A.nB.toNat FU 0 0 ((fun _ => 0), (fun _ => 0)) (by omega) (by omega) (by unfold FU; omega) s00
    obtain ⟨T2, -, t2⟩ := is554 h hL hm (fun M _ => none) A.nV.toNat FU 0 0 T1 (by omega) (by omega) (by unfold FU; omega) t1
    exact ⟨T2, t2⟩
  obtain ⟨T, hT⟩ := hT
  obtain ⟨T', e⟩ := last T hT
  have e65 : fL_isSo_j65 N (iI 1) = some (iI 1, N) := by
    unfold fL_isSo_j65
    rw [e, b2S]
  obtain ⟨m1, m2, m3⟩ := hm
  clear last e hT s00 hM hL h
  simp (disch := omega) only [eq_self, MoI, nmD, bdS, b2S, lit32, iA, iS, iM, iN, iLt, iLe, iE, zlT, zlF, zleT, zleF, zeT, zeF, RdI, WrI, DvI, jmaxI, jminI, jabsI, bI0, Zb0, Zb1, ZbI, ↓reduceIte, not_true_eq_false, not_false_eq_true, ite_not, and_true, true_and, and_false, false_and, and_self, fL_isSo, g0, g1, g2, g3, c0, c1, c2, c3, c5, m0, e65, pe_eta]
end IS2
