/-! The class's bookings and plays. -/
section CB
variable {V : Vn} {A : Ab} {K : Int}
set_option maxHeartbeats 4000000 in
theorem cBook59 (hX : RepX V A) (hW : WF K A) {r t p v d : Int} (hr : 0 ≤ r ∧ r < A.nR) (ht : 0 ≤ t ∧ t ≤ 720) (hp : 2 ≤ p ∧ p ≤ A.R r 3) (hv : (v = -1 ∧ d = 0) ∨ (0 ≤ v ∧ v < A.nV ∧ d = min (A.R r 2 * p) (A.V v 1))) (q1 : Poss A r t (-9)) (hn : A.nB < 16) : ∃ V' : Vn, fX0_newBooking_j59 V (iI r) (iI t) (iI p) (iI v) = some (iI A.nB, V') ∧ RepX V' (nb A r t p (A.R r 2 * p) d v) ∧ WF K (nb A r t p (A.R r 2 * p) d v) := by
  have hN := hW.n
  have hR := hW.r hr.1 hr.2
  have hm := mulb (a := A.R r 2) (b := p) (X := 200) (Y := 8) (by omega) (by omega) (by omega) (by omega)
  have hm2 : A.R r 2 * p ≤ 200 * p := Int.mul_le_mul_of_nonneg_right hR.2.2.1.2 (by omega)
  have hpx := (xPoss hX hW (room := r) (time := t) (but := -9) hr (by omega) (by omega) (fun z _ => absurd z (by omega))).1 q1
  have hf := xFull (n := 160) (w := iI 10) (cap := 16) hX.uB (by omega) hN.2.2.1 (by omega) (by omega)
  have hvb : 0 ≤ d ∧ d ≤ A.R r 2 * p ∧ (0 < d → 0 ≤ v ∧ v < A.nV ∧ d ≤ A.V v 1) := by
    rcases hv with ⟨rfl, rfl⟩ | ⟨v0, v1, hd⟩
    · exact ⟨by omega, by omega, fun z => absurd z (by omega)⟩
    · have := hW.2.2.2.2.1 v v0 v1
      exact ⟨by omega, by omega, fun _ => ⟨v0, v1, by omega⟩⟩
  obtain ⟨g, g1, g2, g3⟩ := addI (tn := 160) (cap := 16) (w := 10) (b := A.nB * 10) hX.uB (by omega) (by omega) (by omega) (by omega) (by omega) (by omega) (fun T c hT c0 c1 => putI10 hT (by omega) (by omega) (by omega) c0 c1)
  obtain ⟨T0, k0, u0, f0, y0⟩ := putE10 (T := (iI (A.nB + 1), g)) (x := iI r) (r := A.nB) (c := 0) rfl (by omega) (by omega) (by omega) (by omega) (by omega)
  obtain ⟨T1, k1, u1, f1, y1⟩ := putE10 (x := iI t) (r := A.nB) (c := 1) u0 (by omega) (by omega) (by omega) (by omega) (by omega)
  obtain ⟨T2, k2, u2, f2, y2⟩ := putE10 (x := iI p) (r := A.nB) (c := 2) u1 (by omega) (by omega) (by omega) (by omega) (by omega)
  obtain ⟨T3, k3, u3, f3, y3⟩ := putE10 (x := iI 0) (r := A.nB) (c := 3) u2 (by omega) (by omega) (by omega) (by omega) (by omega)
  obtain ⟨T8, k8, u8, f8, y8⟩ := putE10 (x := iI (-9)) (r := A.nB) (c := 8) u3 (by omega) (by omega) (by omega) (by omega) (by omega)
  obtain ⟨T9, k9, u9, f9, y9⟩ := putE10 (x := iI (-9)) (r := A.nB) (c := 9) u8 (by omega) (by omega) (by omega) (by omega) (by omega)
  obtain ⟨T', W, P, l0, l1, l4, l5, lo, lp⟩ := xPay hX hW hn (T := T9) u9 (c := A.R r 2 * p) (v := v) (d := d) (by omega) hv
  have hXf : RepX (V.1, T', W, P, V.2.2.2.2.1, iI (A.t + (A.R r 2 * p - d))) (nb A r t p (A.R r 2 * p) d v) := by
    refine repXnb hX hW hn l1 (fun j j0 j1 => ?_) ?_ ?_ ?_ ?_ l4 l5 ?_ ?_ ?_ lp
    · rw [lo _ j0 (by omega), y9 _ j0 (by omega), y8 _ j0 (by omega), y3 _ j0 (by omega), y2 _ j0 (by omega), y1 _ j0 (by omega), y0 _ j0 (by omega)]
      exact g2 _ (by omega)
    · rw [lo _ (by omega) (by omega), y9 _ (by omega) (by omega), y8 _ (by omega) (by omega), y3 _ (by omega) (by omega), y2 _ (by omega) (by omega), y1 _ (by omega) (by omega)]
      exact f0
    · rw [lo _ (by omega) (by omega), y9 _ (by omega) (by omega), y8 _ (by omega) (by omega), y3 _ (by omega) (by omega), y2 _ (by omega) (by omega)]
      exact f1
    · rw [lo _ (by omega) (by omega), y9 _ (by omega) (by omega), y8 _ (by omega) (by omega), y3 _ (by omega) (by omega)]
      exact f2
    · rw [lo _ (by omega) (by omega), y9 _ (by omega) (by omega), y8 _ (by omega) (by omega)]
      exact f3
    · rw [lo _ (by omega) (by omega), y9 _ (by omega) (by omega), y8 _ (by omega) (by omega), y3 _ (by omega) (by omega), y2 _ (by omega) (by omega), y1 _ (by omega) (by omega), y0 _ (by omega) (by omega)]
      exact g3 _ (by omega) (by omega)
    · rw [lo _ (by omega) (by omega), y9 _ (by omega) (by omega)]
      exact f8
    · rw [lo _ (by omega) (by omega)]
      exact f9
  have hWf := WF.nbf hW hn (r := r) (t := t) (p := p) (c := A.R r 2 * p) (d := d) (v := v) hr ht (by omega) (by omega) (by omega) hvb.2.2 q1
  have r2 := xR hX hW (r := r) (c := 2) hr.1 hr.2 (by omega) (by omega)
  refine ⟨_, ?_, hXf, hWf⟩
  clear hXf hWf lo lp y0 y1 y2 y3 y8 y9 g2 g3 hv hX hW q1
  simp (disch := omega) only [nmD, bdS, b2S, lit32, iA, iS, iM, iN, iLt, iLe, iE, zlT, zlF, zleT, zleF, zeT, zeF, RdI, WrI, DvI, jmaxI, jminI, jabsI, bI0, Zb0, Zb1, ZbI, ↓reduceIte, not_true_eq_false, not_false_eq_true, ite_not, and_true, true_and, and_false, false_and, and_self, fX0_newBooking_j59, hpx, hf, g1, k0, k1, k2, k3, k8, k9, r2, l0]
theorem cBookN59 (hX : RepX V A) (hW : WF K A) {r t : Int} {p v : Int32} (hr : 0 ≤ r ∧ r < A.nR) (ht : 0 ≤ t ∧ t ≤ 720) (q1 : ¬ Poss A r t (-9)) : fX0_newBooking_j59 V (iI r) (iI t) p v = some (iI (-2), V) := by
  have hN := hW.n
  have hpx := (xPoss hX hW (room := r) (time := t) (but := -9) hr (by omega) (by omega) (fun z _ => absurd z (by omega))).2 q1
  simp (disch := omega) only [nmD, bdS, b2S, lit32, iA, iS, iM, iN, iLt, iLe, iE, zlT, zlF, zleT, zleF, zeT, zeF, RdI, WrI, DvI, jmaxI, jminI, jabsI, bI0, Zb0, Zb1, ZbI, ↓reduceIte, not_true_eq_false, not_false_eq_true, ite_not, and_true, true_and, and_false, false_and, and_self, fX0_newBooking_j59, hpx]
theorem cBookTo (hX : RepX V A) (hW : WF K A) {r t p v : Int} (hr : 0 ≤ r ∧ r < A.nR) (ht : 0 ≤ t ∧ t ≤ 720) (hp : 2 ≤ p ∧ p ≤ A.R r 3) (hv : v = -1 ∨ (0 ≤ v ∧ v < A.nV)) : fX0_newBooking V (iI r) (iI t) (iI p) (iI v) = fX0_newBooking_j59 V (iI r) (iI t) (iI p) (iI v) := by
  have hN := hW.n
  obtain ⟨q1a, q1b⟩ := hr
  have hR := hW.r q1a q1b
  have hxr := xHasR hX hW (x := r) (by omega) (by omega)
  have r3 := xR hX hW (r := r) (c := 3) q1a q1b (by omega) (by omega)
  have hxv := xHasV hX hW (x := v) (by omega) (by omega)
  obtain ⟨q2a, q2b⟩ := ht
  obtain ⟨q3a, q3b⟩ := hp
  rcases hv with rfl | ⟨q5a, q5b⟩
  · simp (disch := omega) only [nmD, bdS, b2S, lit32, iA, iS, iM, iN, iLt, iLe, iE, zlT, zlF, zleT, zleF, zeT, zeF, RdI, WrI, DvI, jmaxI, jminI, jabsI, bI0, Zb0, Zb1, ZbI, ↓reduceIte, not_true_eq_false, not_false_eq_true, ite_not, and_true, true_and, and_false, false_and, and_self, fX0_newBooking, hxr, xIn, r3]
  · have q4 : v < -1 ∨ -1 < v := by omega
    simp (disch := omega) only [nmD, bdS, b2S, lit32, iA, iS, iM, iN, iLt, iLe, iE, zlT, zlF, zleT, zleF, zeT, zeF, RdI, WrI, DvI, jmaxI, jminI, jabsI, bI0, Zb0, Zb1, ZbI, ↓reduceIte, not_true_eq_false, not_false_eq_true, ite_not, and_true, true_and, and_false, false_and, and_self, fX0_newBooking, hxr, xIn, r3, hxv]
theorem cBookP (hX : RepX V A) (hW : WF K A) {r t p : Int} {v : Int32} (hr : 0 ≤ r ∧ r < A.nR) (ht : 0 ≤ t ∧ t ≤ 720) (hp1 : -2147483648 ≤ p) (hp2 : p < 2147483648) (hp : ¬ (2 ≤ p ∧ p ≤ A.R r 3)) : fX0_newBooking V (iI r) (iI t) (iI p) v = some (iI (-1), V) := by
  have hN := hW.n
  obtain ⟨q1a, q1b⟩ := hr
  have hR := hW.r q1a q1b
  have hxr := xHasR hX hW (x := r) (by omega) (by omega)
  have r3 := xR hX hW (r := r) (c := 3) q1a q1b (by omega) (by omega)
  obtain ⟨q2a, q2b⟩ := ht
  simp (disch := omega) only [nmD, bdS, b2S, lit32, iA, iS, iM, iN, iLt, iLe, iE, zlT, zlF, zleT, zleF, zeT, zeF, RdI, WrI, DvI, jmaxI, jminI, jabsI, bI0, Zb0, Zb1, ZbI, ↓reduceIte, not_true_eq_false, not_false_eq_true, ite_not, and_true, true_and, and_false, false_and, and_self, fX0_newBooking, hxr, xIn, r3, hp]
theorem cBookT (hX : RepX V A) (hW : WF K A) {r t : Int} {p v : Int32} (hr : 0 ≤ r ∧ r < A.nR) (ht1 : -2147483648 ≤ t) (ht2 : t < 2147483648) (ht : ¬ (0 ≤ t ∧ t ≤ 720)) : fX0_newBooking V (iI r) (iI t) p v = some (iI (-1), V) := by
  have hN := hW.n
  obtain ⟨q1a, q1b⟩ := hr
  have hxr := xHasR hX hW (x := r) (by omega) (by omega)
  simp (disch := omega) only [nmD, bdS, b2S, lit32, iA, iS, iM, iN, iLt, iLe, iE, zlT, zlF, zleT, zleF, zeT, zeF, RdI, WrI, DvI, jmaxI, jminI, jabsI, bI0, Zb0, Zb1, ZbI, ↓reduceIte, not_true_eq_false, not_false_eq_true, ite_not, and_true, true_and, and_false, false_and, and_self, fX0_newBooking, hxr, xIn, ht]
/-- solved, overrun, minutes of a play of i with goal e and effort y -/
def plF (A : Ab) (i e y : Int) : Int := if 0 < e ∧ y ≤ A.R (A.B i 0) 0 + A.S 1 then 1 else 0
def plG (A : Ab) (i e y : Int) : Int := if 0 < e ∧ A.R (A.B i 0) 0 < y then 1 else 0
def plN (A : Ab) (i e y : Int) : Int := if e = 0 then A.R (A.B i 0) 0 else min y (A.R (A.B i 0) 0 + A.S 1)
def plA (A : Ab) (i e h w : Int) : Ab := rfA (occ (cts A (A.B i 0) (plF A i e (e + h * A.S 0)) h (plN A i e (e + h * A.S 0)) (plG A i e (e + h * A.S 0))) i (plN A i e (e + h * A.S 0)) w) i (shr A (A.B i 4) (oS A i - A.B i 1))
set_option maxHeartbeats 4000000 in
theorem cPlay (hX : RepX V A) (hW : WF K A) (hK : K + 2 ≤ 80000) {i e h w : Int} (h1 : 0 ≤ i ∧ i < A.nB) (q2 : 0 ≤ e ∧ e ≤ A.R (A.B i 0) 0) (q3 : 0 ≤ h ∧ h ≤ 20) (q4 : 0 ≤ w ∧ w ≤ 9) (q5 : A.B i 3 = 0) (q6 : nx A (A.B i 0) (-1) = i) : ∃ V' : Vn, fX0_letPlay V (iI i) (iI e) (iI h) (iI w) = some (iI (plN A i e (e + h * A.S 0)), V') ∧ RepX V' (plA A i e h w) ∧ WF (K + 1 + 1) (plA A i e h w) := by
  have hN := hW.n
  have hS := hW.s
  have hhas := xHasB hX hW (x := i) (by omega) (by omega)
  obtain ⟨h1a, h1b⟩ := h1
  have hb := hW.b h1a h1b
  have hr : 0 ≤ A.B i 0 ∧ A.B i 0 < A.nR := hb.1
  have hR0 := (hW.r hr.1 hr.2).1
  have hR4 := (hW.r hr.1 hr.2).2.2.2.2
  have b0 := xB hX hW (i := i) (c := 0) h1a h1b (by omega) (by omega)
  have r0 := xR hX hW (r := A.B i 0) (c := 0) hr.1 hr.2 (by omega) (by omega)
  have bk := xBooked hX hW h1a h1b
  have xn := xNx hX hW (room := A.B i 0) (after := -1) (by omega) (by omega) (by omega) (by omega)
  have s0 := xset hX (k := 0) (by omega) (by omega)
  have s1 := xset hX (k := 1) (by omega) (by omega)
  have hm := mulb (a := h) (b := A.S 0) (X := 20) (Y := 10) (by omega) (by omega) (by omega) (by omega)
  have hd : 0 ≤ oS A i - A.B i 1 := by unfold oS; omega
  have ha := shr_b hW (c := A.B i 4) (d := oS A i - A.B i 1) hb.2.2.2.2.1.1 hd
  have hsum := (hW.2.2.2.1 i h1a h1b).2.2.2.2.2.2 q5
  have hf : (plF A i e (e + h * A.S 0) = 0 ∧ (e ≤ 0 ∨ A.R (A.B i 0) 0 + A.S 1 < e + h * A.S 0)) ∨ (plF A i e (e + h * A.S 0) = 1 ∧ 0 < e ∧ e + h * A.S 0 ≤ A.R (A.B i 0) 0 + A.S 1) := by
    unfold plF
    by_cases z : 0 < e ∧ e + h * A.S 0 ≤ A.R (A.B i 0) 0 + A.S 1
    · exact Or.inr ⟨if_pos z, z.1, z.2⟩
    · exact Or.inl ⟨if_neg z, by omega⟩
  have hg : (plG A i e (e + h * A.S 0) = 0 ∧ (e ≤ 0 ∨ e + h * A.S 0 ≤ A.R (A.B i 0) 0)) ∨ (plG A i e (e + h * A.S 0) = 1 ∧ 0 < e ∧ A.R (A.B i 0) 0 < e + h * A.S 0) := by
    unfold plG
    by_cases z : 0 < e ∧ A.R (A.B i 0) 0 < e + h * A.S 0
    · exact Or.inr ⟨if_pos z, z.1, z.2⟩
    · exact Or.inl ⟨if_neg z, by omega⟩
  have hn2 : 0 ≤ plN A i e (e + h * A.S 0) ∧ plN A i e (e + h * A.S 0) ≤ 200 := by
    unfold plN
    split <;> omega
  unfold plA
  generalize plF A i e (e + h * A.S 0) = f at hf ⊢
  generalize plG A i e (e + h * A.S 0) = g at hg ⊢
  have hn3 : (e = 0 ∧ plN A i e (e + h * A.S 0) = A.R (A.B i 0) 0) ∨ (¬ e = 0 ∧ plN A i e (e + h * A.S 0) = min (e + h * A.S 0) (A.R (A.B i 0) 0 + A.S 1)) := by
    unfold plN
    by_cases z : e = 0
    · exact Or.inl ⟨z, if_pos z⟩
    · exact Or.inr ⟨z, if_neg z⟩
  generalize plN A i e (e + h * A.S 0) = n at hn2 hn3 ⊢
  obtain ⟨V', g1, g2⟩ := playX hX hW hK (f := f) (h := h) (n := n) (g := g) (i := i) (e := e) (w := w) (x6 := A.R (A.B i 0) 0) (x7 := A.R (A.B i 0) 0 + A.S 1) (x8 := e + h * A.S 0) h1a h1b q5 q3 hn2 q4 (by omega) (by omega) (by omega) (by omega) hf hg ha
  have hO := wfOcc hW (by omega) (f := f) (h := h) (n := n) (g := g) (w := w) h1a h1b q5 (by omega) q3 hn2 (by omega) q4
  have z5 : (occ (cts A (A.B i 0) f h n g) i n w).B i 5 = A.B i 5 := by
    show up2 (up2 (up2 A.B i 3 1) i 7 _) i 8 n i 5 = _
    rw [up2_n _ _ (by omega), up2_n _ _ (by omega), up2_n _ _ (by omega)]
  have z3 : (occ (cts A (A.B i 0) f h n g) i n w).B i 3 = 1 := by
    show up2 (up2 (up2 A.B i 3 1) i 7 _) i 8 n i 3 = _
    rw [up2_n _ _ (by omega), up2_n _ _ (by omega), up2_s]
  have hWf := (rfA_pre hO (by omega) (i := i) (a := shr A (A.B i 4) (oS A i - A.B i 1)) h1a h1b (by rw [z3]; omega) ha.1 (by omega) (by rw [z5]; show _ ≤ A.B i 5 + rsum A i; omega)).2.2.2
  refine ⟨V', ?_, g2, hWf⟩
  rw [← g1]
  clear hf hg ha hsum hd g1 g2 hO z5 z3 hWf hX hW
  obtain ⟨q2a, q2b⟩ := q2
  obtain ⟨q3a, q3b⟩ := q3
  obtain ⟨q4a, q4b⟩ := q4
  rcases hn3 with ⟨c, rfl⟩ | ⟨c, rfl⟩
  · simp (disch := omega) only [nmD, bdS, b2S, lit32, iA, iS, iM, iN, iLt, iLe, iE, zlT, zlF, zleT, zleF, zeT, zeF, RdI, WrI, DvI, jmaxI, jminI, jabsI, bI0, Zb0, Zb1, ZbI, ↓reduceIte, not_true_eq_false, not_false_eq_true, ite_not, and_true, true_and, and_false, false_and, and_self, fX0_letPlay, b0, hhas, r0, xIn, bk, xn, q6, s0, s1]
  · simp (disch := omega) only [nmD, bdS, b2S, lit32, iA, iS, iM, iN, iLt, iLe, iE, zlT, zlF, zleT, zleF, zeT, zeF, RdI, WrI, DvI, jmaxI, jminI, jabsI, bI0, Zb0, Zb1, ZbI, ↓reduceIte, not_true_eq_false, not_false_eq_true, ite_not, and_true, true_and, and_false, false_and, and_self, fX0_letPlay, b0, hhas, r0, xIn, bk, xn, q6, s0, s1]
theorem cPlayN (hX : RepX V A) (hW : WF K A) {i e h w : Int} (h1 : 0 ≤ i ∧ i < A.nB) (q2 : 0 ≤ e ∧ e ≤ A.R (A.B i 0) 0) (q3 : 0 ≤ h ∧ h ≤ 20) (q4 : 0 ≤ w ∧ w ≤ 9) (q6 : nx A (A.B i 0) (-1) ≠ i) : fX0_letPlay V (iI i) (iI e) (iI h) (iI w) = some (iI (-2), V) := by
  have hN := hW.n
  have hhas := xHasB hX hW (x := i) (by omega) (by omega)
  obtain ⟨h1a, h1b⟩ := h1
  have hb := hW.b h1a h1b
  have hr : 0 ≤ A.B i 0 ∧ A.B i 0 < A.nR := hb.1
  have hR0 := (hW.r hr.1 hr.2).1
  have b0 := xB hX hW (i := i) (c := 0) h1a h1b (by omega) (by omega)
  have r0 := xR hX hW (r := A.B i 0) (c := 0) hr.1 hr.2 (by omega) (by omega)
  have bk := xBooked hX hW h1a h1b
  have xn := xNx hX hW (room := A.B i 0) (after := -1) (by omega) (by omega) (by omega) (by omega)
  have hnb : -9 ≤ nx A (A.B i 0) (-1) ∧ nx A (A.B i 0) (-1) ≤ 16 := by
    rcases nxU hW (A.B i 0) (-1) with ⟨z, -⟩ | ⟨z1, z2, -⟩ <;> omega
  obtain ⟨q2a, q2b⟩ := q2
  obtain ⟨q3a, q3b⟩ := q3
  obtain ⟨q4a, q4b⟩ := q4
  by_cases q5 : A.B i 3 = 0
  · simp (disch := omega) only [nmD, bdS, b2S, lit32, iA, iS, iM, iN, iLt, iLe, iE, zlT, zlF, zleT, zleF, zeT, zeF, RdI, WrI, DvI, jmaxI, jminI, jabsI, bI0, Zb0, Zb1, ZbI, ↓reduceIte, not_true_eq_false, not_false_eq_true, ite_not, and_true, true_and, and_false, false_and, and_self, fX0_letPlay, b0, hhas, r0, xIn, bk, xn]
  · simp (disch := omega) only [nmD, bdS, b2S, lit32, iA, iS, iM, iN, iLt, iLe, iE, zlT, zlF, zleT, zleF, zeT, zeF, RdI, WrI, DvI, jmaxI, jminI, jabsI, bI0, Zb0, Zb1, ZbI, ↓reduceIte, not_true_eq_false, not_false_eq_true, ite_not, and_true, true_and, and_false, false_and, and_self, fX0_letPlay, b0, hhas, r0, xIn, bk]
theorem cPlayO (hX : RepX V A) (hW : WF K A) {i : Int} {e h w : Int32} (hi1 : -2147483648 ≤ i) (hi2 : i < 2147483648) (h1 : ¬ (0 ≤ i ∧ i < A.nB)) : fX0_letPlay V (iI i) e h w = some (iI (-1), V) := by
  have hN := hW.n
  have hhas := xHasB hX hW hi1 hi2
  have b0 : fX6_cell 160 (iI 16) (iI 10) V.2.1 (iI i) (iI 0) = some (iI 0) := cellO10 hX.uB (by omega) (by omega) (by omega) hi1 hi2
  simp (disch := omega) only [nmD, bdS, b2S, lit32, iA, iS, iM, iN, iLt, iLe, iE, zlT, zlF, zleT, zleF, zeT, zeF, RdI, WrI, DvI, jmaxI, jminI, jabsI, bI0, Zb0, Zb1, ZbI, ↓reduceIte, not_true_eq_false, not_false_eq_true, ite_not, and_true, true_and, and_false, false_and, and_self, fX0_letPlay, b0, hhas, h1]
end CB
