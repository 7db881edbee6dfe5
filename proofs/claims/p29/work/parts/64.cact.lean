/-! The class's actions, each with what it answers and the venue behind it. -/
section CA
variable {V : Vn} {A : Ab} {K : Int}
set_option maxHeartbeats 4000000 in
theorem cRoom (hX : RepX V A) (hW : WF K A) {a b c d : Int} (ha : 20 ≤ a ∧ a ≤ 120) (hb : 0 ≤ b ∧ b ≤ 60) (hc : 1 ≤ c ∧ c ≤ 200) (hd : 2 ≤ d ∧ d ≤ 8) (q : A.nR < 4) : ∃ V' : Vn, fX0_newRoom V (iI a) (iI b) (iI c) (iI d) = some (iI A.nR, V') ∧ RepX V' (rm A a b c d) := by
  have hn := hW.n
  have hf := xFull (n := 44) (w := iI 11) (cap := 4) hX.uR (by omega) hn.1 (by omega) (by omega)
  obtain ⟨ha3, ha4⟩ := ha
  obtain ⟨hb3, hb4⟩ := hb
  obtain ⟨hc3, hc4⟩ := hc
  obtain ⟨hd3, hd4⟩ := hd
  obtain ⟨g, g1, g2, g3⟩ := addI (tn := 44) (cap := 4) (w := 11) (b := A.nR * 11) hX.uR (by omega) (by omega) (by omega) (by omega) (by omega) (by omega) (fun T c hT c0 c1 => putI11 hT (by omega) (by omega) (by omega) c0 c1)
  have p0 := putI11 (T := (iI (A.nR + 1), g)) (u := A.nR + 1) (r := A.nR) (c := 0) (x := iI a) rfl (by omega) (by omega) (by omega) (by omega) (by omega)
  have p1 := putI11 (T := (iI (A.nR + 1), upd g (A.nR * 11 + 0).toNat (iI a))) (u := A.nR + 1) (r := A.nR) (c := 1) (x := iI b) rfl (by omega) (by omega) (by omega) (by omega) (by omega)
  have p2 := putI11 (T := (iI (A.nR + 1), upd (upd g (A.nR * 11 + 0).toNat (iI a)) (A.nR * 11 + 1).toNat (iI b))) (u := A.nR + 1) (r := A.nR) (c := 2) (x := iI c) rfl (by omega) (by omega) (by omega) (by omega) (by omega)
  have p3 := putI11 (T := (iI (A.nR + 1), upd (upd (upd g (A.nR * 11 + 0).toNat (iI a)) (A.nR * 11 + 1).toNat (iI b)) (A.nR * 11 + 2).toNat (iI c))) (u := A.nR + 1) (r := A.nR) (c := 3) (x := iI d) rfl (by omega) (by omega) (by omega) (by omega) (by omega)
  refine ⟨_, ?_, RepX.rm hX (a := a) (b := b) (c := c) (d := d) hn.1 g2 g3⟩
  clear g2 g3
  simp (disch := omega) only [nmD, bdS, b2S, lit32, iA, iS, iM, iN, iLt, iLe, iE, zlT, zlF, zleT, zleF, zeT, zeF, RdI, WrI, DvI, jmaxI, jminI, jabsI, bI0, Zb0, Zb1, ZbI, ↓reduceIte, not_true_eq_false, not_false_eq_true, ite_not, and_true, true_and, and_false, false_and, and_self, fX0_newRoom, xIn, hf, g1, p0, p1, p2, p3]
theorem cRoomA (hX : RepX V A) {a b c d : Int} (ha1 : -2147483648 ≤ a) (ha2 : a < 2147483648) (ha : ¬ (20 ≤ a ∧ a ≤ 120)) : fX0_newRoom V (iI a) (iI b) (iI c) (iI d) = some (iI (-1), V) := by
  simp (disch := omega) only [nmD, bdS, b2S, lit32, iA, iS, iM, iN, iLt, iLe, iE, zlT, zlF, zleT, zleF, zeT, zeF, RdI, WrI, DvI, jmaxI, jminI, jabsI, bI0, Zb0, Zb1, ZbI, ↓reduceIte, not_true_eq_false, not_false_eq_true, ite_not, and_true, true_and, and_false, false_and, and_self, fX0_newRoom, xIn, ha]
theorem cRoomB (hX : RepX V A) {a b c d : Int} (ha : 20 ≤ a ∧ a ≤ 120) (hb1 : -2147483648 ≤ b) (hb2 : b < 2147483648) (hb : ¬ (0 ≤ b ∧ b ≤ 60)) : fX0_newRoom V (iI a) (iI b) (iI c) (iI d) = some (iI (-1), V) := by
  obtain ⟨ha3, ha4⟩ := ha
  simp (disch := omega) only [nmD, bdS, b2S, lit32, iA, iS, iM, iN, iLt, iLe, iE, zlT, zlF, zleT, zleF, zeT, zeF, RdI, WrI, DvI, jmaxI, jminI, jabsI, bI0, Zb0, Zb1, ZbI, ↓reduceIte, not_true_eq_false, not_false_eq_true, ite_not, and_true, true_and, and_false, false_and, and_self, fX0_newRoom, xIn, hb]
set_option maxHeartbeats 4000000 in
theorem cGift (hX : RepX V A) (hW : WF K A) {x : Int} (h1 : 1 ≤ x ∧ x ≤ 500) (c : A.nV < 8) : ∃ V' : Vn, fX0_newVoucher V (iI x) = some (iI A.nV, V') ∧ RepX V' (gv A x) := by
  have hn := hW.n
  have hf := xFull (n := 16) (w := iI 2) (cap := 8) hX.uV (by omega) hn.2.2.2.2.1 (by omega) (by omega)
  obtain ⟨h1a, h1b⟩ := h1
  obtain ⟨g, g1, g2, g3⟩ := addI (tn := 16) (cap := 8) (w := 2) (b := A.nV * 2) hX.uV (by omega) (by omega) (by omega) (by omega) (by omega) (by omega) (fun T c hT c0 c1 => putI2 hT (by omega) (by omega) (by omega) c0 c1)
  have p0 := putI2 (T := (iI (A.nV + 1), g)) (u := A.nV + 1) (r := A.nV) (c := 0) (x := iI x) rfl (by omega) (by omega) (by omega) (by omega) (by omega)
  have p1 := putI2 (T := (iI (A.nV + 1), upd g (A.nV * 2 + 0).toNat (iI x))) (u := A.nV + 1) (r := A.nV) (c := 1) (x := iI x) rfl (by omega) (by omega) (by omega) (by omega) (by omega)
  have ht : V.2.2.2.2.2 = iI A.t := hX.2.2.2.2.1
  refine ⟨_, ?_, RepX.gv hX (x := x) (by omega) g2⟩
  clear g2 g3
  simp (disch := omega) only [nmD, bdS, b2S, lit32, iA, iS, iM, iN, iLt, iLe, iE, zlT, zlF, zleT, zleF, zeT, zeF, RdI, WrI, DvI, jmaxI, jminI, jabsI, bI0, Zb0, Zb1, ZbI, ↓reduceIte, not_true_eq_false, not_false_eq_true, ite_not, and_true, true_and, and_false, false_and, and_self, fX0_newVoucher, xIn, hf, g1, p0, p1, ht]
theorem cGiftN (hX : RepX V A) {x : Int} (h1 : -2147483648 ≤ x) (h2 : x < 2147483648) (h : ¬ (1 ≤ x ∧ x ≤ 500)) : fX0_newVoucher V (iI x) = some (iI (-1), V) := by
  simp (disch := omega) only [nmD, bdS, b2S, lit32, iA, iS, iM, iN, iLt, iLe, iE, zlT, zlF, zleT, zleF, zeT, zeF, RdI, WrI, DvI, jmaxI, jminI, jabsI, bI0, Zb0, Zb1, ZbI, ↓reduceIte, not_true_eq_false, not_false_eq_true, ite_not, and_true, true_and, and_false, false_and, and_self, fX0_newVoucher, xIn, h]
theorem cPrice (hX : RepX V A) (hW : WF K A) {x y : Int} (h1 : 0 ≤ x ∧ x < A.nR) (h2 : 1 ≤ y ∧ y ≤ 200) : ∃ V' : Vn, fX0_changePrice V (iI x) (iI y) = some (iI (A.R x 2), V') ∧ RepX V' (A.setR x 2 y) := by
  have hn := hW.n
  obtain ⟨h1a, h1b⟩ := h1
  obtain ⟨h2a, h2b⟩ := h2
  have hp := putI11 (T := V.1) (c := 2) (x := iI y) hX.uR hn.2.1 h1a h1b (by omega) (by omega)
  refine ⟨_, ?_, RepX.setR hX h1a h1b (c := 2) (v := y) (by omega) (by omega)⟩
  simp (disch := omega) only [nmD, bdS, b2S, lit32, iA, iS, iM, iN, iLt, iLe, iE, zlT, zlF, zleT, zleF, zeT, zeF, RdI, WrI, DvI, jmaxI, jminI, jabsI, bI0, Zb0, Zb1, ZbI, ↓reduceIte, not_true_eq_false, not_false_eq_true, ite_not, and_true, true_and, and_false, false_and, and_self, fX0_changePrice, xHasR hX hW, xIn, xR hX hW, hp]
theorem cSet (hX : RepX V A) (hW : WF K A) {x y : Int} (h1 : 0 ≤ x ∧ x ≤ 4) (h2 : 0 ≤ y ∧ y ≤ most x) : ∃ V' : Vn, fX0_changeSetting V (iI x) (iI y) = some (iI (A.S x), V') ∧ RepX V' (A.setS x y) := by
  have hn := hW.n
  obtain ⟨h1a, h1b⟩ := h1
  obtain ⟨h2a, h2b⟩ := h2
  have hm := most_b x
  have hxm := xMost h1a (by omega)
  have hp := putI1 (T := V.2.2.2.2.1) (r := x) (c := 0) (x := iI y) (u := 5) hX.uS (by omega) h1a (by omega) (by omega) (by omega)
  refine ⟨_, ?_, RepX.setS hX h1a (v := y) (by omega)⟩
  simp (disch := omega) only [nmD, bdS, b2S, lit32, iA, iS, iM, iN, iLt, iLe, iE, zlT, zlF, zleT, zleF, zeT, zeF, RdI, WrI, DvI, jmaxI, jminI, jabsI, bI0, Zb0, Zb1, ZbI, ↓reduceIte, not_true_eq_false, not_false_eq_true, ite_not, and_true, true_and, and_false, false_and, and_self, fX0_changeSetting, hxm, xIn, xset hX, hp]
theorem cMove (hX : RepX V A) (hW : WF K A) {x y : Int} (h1 : 0 ≤ x ∧ x < A.nB) (h2 : 0 ≤ y ∧ y ≤ 720) (h3 : A.B x 3 = 0) (h4 : Poss A (A.B x 0) y x) : ∃ V' : Vn, fX0_changeTime V (iI x) (iI y) = some (iI (A.B x 1), V') ∧ RepX V' (A.setB x 1 y) := by
  have hn := hW.n
  obtain ⟨h1a, h1b⟩ := h1
  obtain ⟨h2a, h2b⟩ := h2
  have hr0 : 0 ≤ A.B x 0 ∧ A.B x 0 < A.nR := (hW.2.2.2.1 x h1a h1b).1
  have hpx := (xPoss hX hW (room := A.B x 0) (time := y) (but := x) hr0 (by omega) (by omega) (fun _ _ => h3)).1 h4
  have hp := putI10 (T := V.2.1) (c := 1) (x := iI y) hX.uB hn.2.2.2.1 h1a h1b (by omega) (by omega)
  refine ⟨_, ?_, RepX.setB hX h1a h1b (c := 1) (v := y) (by omega) (by omega) (by omega)⟩
  simp (disch := omega) only [nmD, bdS, b2S, lit32, iA, iS, iM, iN, iLt, iLe, iE, zlT, zlF, zleT, zleF, zeT, zeF, RdI, WrI, DvI, jmaxI, jminI, jabsI, bI0, Zb0, Zb1, ZbI, ↓reduceIte, not_true_eq_false, not_false_eq_true, ite_not, and_true, true_and, and_false, false_and, and_self, fX0_changeTime, xHasB hX hW, xIn, xB hX hW, xBooked hX hW, hpx, hp]
theorem cMoveN (hX : RepX V A) (hW : WF K A) {x y : Int} (h1 : 0 ≤ x ∧ x < A.nB) (h2 : 0 ≤ y ∧ y ≤ 720) (h4 : A.B x 3 = 0 → ¬ Poss A (A.B x 0) y x) : fX0_changeTime V (iI x) (iI y) = some (iI (-2), V) := by
  have hn := hW.n
  obtain ⟨h1a, h1b⟩ := h1
  obtain ⟨h2a, h2b⟩ := h2
  by_cases h3 : A.B x 3 = 0
  · have hr0 : 0 ≤ A.B x 0 ∧ A.B x 0 < A.nR := (hW.2.2.2.1 x h1a h1b).1
    have hpx := (xPoss hX hW (room := A.B x 0) (time := y) (but := x) hr0 (by omega) (by omega) (fun _ _ => h3)).2 (h4 h3)
    simp (disch := omega) only [nmD, bdS, b2S, lit32, iA, iS, iM, iN, iLt, iLe, iE, zlT, zlF, zleT, zleF, zeT, zeF, RdI, WrI, DvI, jmaxI, jminI, jabsI, bI0, Zb0, Zb1, ZbI, ↓reduceIte, not_true_eq_false, not_false_eq_true, ite_not, and_true, true_and, and_false, false_and, and_self, fX0_changeTime, xHasB hX hW, xIn, xB hX hW, xBooked hX hW, hpx]
  · simp (disch := omega) only [nmD, bdS, b2S, lit32, iA, iS, iM, iN, iLt, iLe, iE, zlT, zlF, zleT, zleF, zeT, zeF, RdI, WrI, DvI, jmaxI, jminI, jabsI, bI0, Zb0, Zb1, ZbI, ↓reduceIte, not_true_eq_false, not_false_eq_true, ite_not, and_true, true_and, and_false, false_and, and_self, fX0_changeTime, xHasB hX hW, xIn, xB hX hW, xBooked hX hW, h3]
theorem cMoveO (hX : RepX V A) (hW : WF K A) {x : Int} {y : Int32} (hx1 : -2147483648 ≤ x) (hx2 : x < 2147483648) (h1 : ¬ (0 ≤ x ∧ x < A.nB)) : fX0_changeTime V (iI x) y = some (iI (-1), V) := by
  have hn := hW.n
  simp (disch := omega) only [nmD, bdS, b2S, lit32, iA, iS, iM, iN, iLt, iLe, iE, zlT, zlF, zleT, zleF, zeT, zeF, RdI, WrI, DvI, jmaxI, jminI, jabsI, bI0, Zb0, Zb1, ZbI, ↓reduceIte, not_true_eq_false, not_false_eq_true, ite_not, and_true, true_and, and_false, false_and, and_self, fX0_changeTime, xHasB hX hW, h1]
/-- what is refunded when a booking is called off -/
def dra (A : Ab) (x : Int) : Int := if stt A x 0 - A.B x 1 ≤ A.S 3 then (A.B x 5 + rsum A x) / 2 else A.B x 5 + rsum A x
set_option maxHeartbeats 4000000 in
theorem cDrop (hX : RepX V A) (hW : WF K A) (hK : K + 1 ≤ 80000) {x : Int} (h1 : 0 ≤ x ∧ x < A.nB) (h3 : A.B x 3 = 0) : ∃ V' : Vn, fX0_callOff V (iI x) = some (iI (dra A x), V') ∧ RepX V' (rfA (A.setB x 3 2) x (dra A x)) ∧ WF (K + 1) (rfA (A.setB x 3 2) x (dra A x)) ∧ 0 ≤ dra A x ∧ dra A x ≤ 1600 := by
  have hn := hW.n
  have hs := hW.s
  obtain ⟨h1a, h1b⟩ := h1
  have hb := hW.b h1a h1b
  have hg := good_self (A := A) h1a h1b h3
  have hsb := stt_b hW hg (later := 0) (by omega) (by omega)
  have hch := (hW.2.2.2.1 x h1a h1b).2.2.2.2.2.2 h3
  have hrp := (rsum_pos hW h1a h1b).1
  have hW2 := hW.setB3 (i := x) (v := 2) h1a h1b h3 (by omega) (by omega)
  have e5 : (A.setB x 3 2).B x 5 = A.B x 5 := up2_n _ _ (by omega)
  have e3 : (A.setB x 3 2).B x 3 = 2 := up2_s _ _ _ _
  have hX2 := RepX.setB hX (i := x) (c := 3) (v := 2) h1a h1b (by omega) (by omega) (by omega)
  have hX2 : RepX (V.1, (V.2.1.1, upd V.2.1.2 (x * 10 + 3).toNat (iI 2)), V.2.2) (A.setB x 3 2) := hX2
  have hp3 := putI10 (T := V.2.1) (c := 3) (x := iI 2) hX.uB hn.2.2.2.1 h1a h1b (by omega) (by omega)
  have hx5 := xSt hX hW hg
  have fin : ∀ a : Int, 0 ≤ a → a ≤ A.B x 5 + rsum A x → ∃ V' : Vn, fX0_callOff_j84 V (iI x) (iI a) = some (iI a, V') ∧ RepX V' (rfA (A.setB x 3 2) x a) ∧ WF (K + 1) (rfA (A.setB x 3 2) x a) ∧ 0 ≤ a ∧ a ≤ 1600 := by
    intro a a0 a1
    obtain ⟨V', g1, g2⟩ := xRefund hX2 hW2 hK (i := x) (a := a) h1a h1b (by rw [e3]; omega) a0 (by omega) (by rw [e5]; exact a1)
    have hWf := (rfA_pre hW2 hK (i := x) (a := a) h1a h1b (by rw [e3]; omega) a0 (by omega) (by rw [e5]; exact a1)).2.2.2
    refine ⟨V', ?_, g2, hWf, a0, by omega⟩
    unfold fX0_callOff_j84
    rw [show fX6_put 160 16 10 V.2.1 (iI x) 3 2 = _ from hp3, bdS, nmD, g1, bdS]
  unfold dra
  by_cases c : stt A x 0 - A.B x 1 ≤ A.S 3
  · rw [if_pos c]
    obtain ⟨V', q1, q3⟩ := fin ((A.B x 5 + rsum A x) / 2) (by omega) (by omega)
    refine ⟨V', ?_, q3⟩
    rw [← q1]
    clear fin q1 q3 hX2 hW2 hp3
    simp (disch := omega) only [nmD, bdS, b2S, lit32, iA, iS, iM, iN, iLt, iLe, iE, zlT, zlF, zleT, zleF, zeT, zeF, RdI, WrI, DvI, jmaxI, jminI, jabsI, bI0, Zb0, Zb1, ZbI, ↓reduceIte, not_true_eq_false, not_false_eq_true, ite_not, and_true, true_and, and_false, false_and, and_self, fX0_callOff, xHasB hX hW, xBooked hX hW, hx5, xB hX hW, xPaid hX hW, xset hX]
  · rw [if_neg c]
    obtain ⟨V', q1, q3⟩ := fin (A.B x 5 + rsum A x) (by omega) (by omega)
    refine ⟨V', ?_, q3⟩
    rw [← q1]
    clear fin q1 q3 hX2 hW2 hp3
    simp (disch := omega) only [nmD, bdS, b2S, lit32, iA, iS, iM, iN, iLt, iLe, iE, zlT, zlF, zleT, zleF, zeT, zeF, RdI, WrI, DvI, jmaxI, jminI, jabsI, bI0, Zb0, Zb1, ZbI, ↓reduceIte, not_true_eq_false, not_false_eq_true, ite_not, and_true, true_and, and_false, false_and, and_self, fX0_callOff, xHasB hX hW, xBooked hX hW, hx5, xB hX hW, xPaid hX hW, xset hX]
theorem cDropN (hX : RepX V A) (hW : WF K A) {x : Int} (h1 : 0 ≤ x ∧ x < A.nB) (h3 : ¬ A.B x 3 = 0) : fX0_callOff V (iI x) = some (iI (-2), V) := by
  have hn := hW.n
  obtain ⟨h1a, h1b⟩ := h1
  simp (disch := omega) only [nmD, bdS, b2S, lit32, iA, iS, iM, iN, iLt, iLe, iE, zlT, zlF, zleT, zleF, zeT, zeF, RdI, WrI, DvI, jmaxI, jminI, jabsI, bI0, Zb0, Zb1, ZbI, ↓reduceIte, not_true_eq_false, not_false_eq_true, ite_not, and_true, true_and, and_false, false_and, and_self, fX0_callOff, xHasB hX hW, xBooked hX hW]
theorem cDropO (hX : RepX V A) (hW : WF K A) {x : Int} (hx1 : -2147483648 ≤ x) (hx2 : x < 2147483648) (h1 : ¬ (0 ≤ x ∧ x < A.nB)) : fX0_callOff V (iI x) = some (iI (-1), V) := by
  have hn := hW.n
  simp (disch := omega) only [nmD, bdS, b2S, lit32, iA, iS, iM, iN, iLt, iLe, iE, zlT, zlF, zleT, zleF, zeT, zeF, RdI, WrI, DvI, jmaxI, jminI, jabsI, bI0, Zb0, Zb1, ZbI, ↓reduceIte, not_true_eq_false, not_false_eq_true, ite_not, and_true, true_and, and_false, false_and, and_self, fX0_callOff, xHasB hX hW, h1]
theorem cJoinS (hX : RepX V A) (hW : WF K A) {i : Int} (h1 : 0 ≤ i ∧ i < A.nB) : fX0_joinTeams V (iI i) (iI i) = some (iI (-1), V) := by
  have hN := hW.n
  obtain ⟨q1a, q1b⟩ := h1
  have b1 := xHasB hX hW (x := i) (by omega) (by omega)
  simp (disch := omega) only [nmD, bdS, b2S, lit32, iA, iS, iM, iN, iLt, iLe, iE, zlT, zlF, zleT, zleF, zeT, zeF, RdI, WrI, DvI, jmaxI, jminI, jabsI, bI0, Zb0, Zb1, ZbI, ↓reduceIte, not_true_eq_false, not_false_eq_true, ite_not, and_true, true_and, and_false, false_and, and_self, fX0_joinTeams, b1]
theorem cJoinO (hX : RepX V A) (hW : WF K A) {i : Int} {j : Int32} (hi1 : -2147483648 ≤ i) (hi2 : i < 2147483648) (h1 : ¬ (0 ≤ i ∧ i < A.nB)) : fX0_joinTeams V (iI i) j = some (iI (-1), V) := by
  have b1 := xHasB hX hW hi1 hi2
  unfold fX0_joinTeams
  rw [show fX6_has 160 16 10 V.2.1 (iI i) = some (iI 0) from b1.trans (congrArg some (bIf h1)), bdS]
  rfl
theorem cJoinN (hX : RepX V A) (hW : WF K A) {i j : Int} (h1 : 0 ≤ i ∧ i < A.nB) (h2 : 0 ≤ j ∧ j < A.nB) (hij : i < j ∨ j < i) (h : A.B i 3 = 0 → A.B j 3 = 0 → A.B i 0 = A.B j 0 → False) : fX0_joinTeams V (iI i) (iI j) = some (iI (-2), V) := by
  have hN := hW.n
  have hbi := hW.b h1.1 h1.2
  have hbj := hW.b h2.1 h2.2
  have b1 := xHasB hX hW (x := i) (by omega) (by omega)
  have b2 := xHasB hX hW (x := j) (by omega) (by omega)
  have d1 := xBooked hX hW h1.1 h1.2
  have d2 := xBooked hX hW h2.1 h2.2
  have i0 := xB hX hW (i := i) (c := 0) h1.1 h1.2 (by omega) (by omega)
  have j0 := xB hX hW (i := j) (c := 0) h2.1 h2.2 (by omega) (by omega)
  obtain ⟨q1a, q1b⟩ := h1
  obtain ⟨q2a, q2b⟩ := h2
  by_cases q4 : A.B i 3 = 0
  · by_cases q5 : A.B j 3 = 0
    · have q6 : ¬ A.B i 0 = A.B j 0 := fun e => h q4 q5 e
      clear h
      simp (disch := omega) only [nmD, bdS, b2S, lit32, iA, iS, iM, iN, iLt, iLe, iE, zlT, zlF, zleT, zleF, zeT, zeF, RdI, WrI, DvI, jmaxI, jminI, jabsI, bI0, Zb0, Zb1, ZbI, ↓reduceIte, not_true_eq_false, not_false_eq_true, ite_not, and_true, true_and, and_false, false_and, and_self, fX0_joinTeams, b1, b2, j0, d1, d2, q4, q5, i0]
    · clear h
      simp (disch := omega) only [nmD, bdS, b2S, lit32, iA, iS, iM, iN, iLt, iLe, iE, zlT, zlF, zleT, zleF, zeT, zeF, RdI, WrI, DvI, jmaxI, jminI, jabsI, bI0, Zb0, Zb1, ZbI, ↓reduceIte, not_true_eq_false, not_false_eq_true, ite_not, and_true, true_and, and_false, false_and, and_self, fX0_joinTeams, b1, b2, j0, d1, d2, q4, q5]
  · clear h
    simp (disch := omega) only [nmD, bdS, b2S, lit32, iA, iS, iM, iN, iLt, iLe, iE, zlT, zlF, zleT, zleF, zeT, zeF, RdI, WrI, DvI, jmaxI, jminI, jabsI, bI0, Zb0, Zb1, ZbI, ↓reduceIte, not_true_eq_false, not_false_eq_true, ite_not, and_true, true_and, and_false, false_and, and_self, fX0_joinTeams, b1, b2, j0, d1, q4]
theorem cJoinF (hX : RepX V A) (hW : WF K A) {i j : Int} (h1 : 0 ≤ i ∧ i < A.nB) (h2 : 0 ≤ j ∧ j < A.nB) (hij : i < j ∨ j < i) (q4 : A.B i 3 = 0) (q5 : A.B j 3 = 0) (q6 : A.B i 0 = A.B j 0) (q7 : ¬ A.B i 2 + A.B j 2 ≤ A.R (A.B j 0) 3) : fX0_joinTeams V (iI i) (iI j) = some (iI (-3), V) := by
  have hN := hW.n
  have hbi := hW.b h1.1 h1.2
  have hbj := hW.b h2.1 h2.2
  have hr3 := (hW.r hbj.1.1 hbj.1.2).2.2.2.1
  have b1 := xHasB hX hW (x := i) (by omega) (by omega)
  have b2 := xHasB hX hW (x := j) (by omega) (by omega)
  have d1 := xBooked hX hW h1.1 h1.2
  have d2 := xBooked hX hW h2.1 h2.2
  have i0 := xB hX hW (i := i) (c := 0) h1.1 h1.2 (by omega) (by omega)
  have j0 := xB hX hW (i := j) (c := 0) h2.1 h2.2 (by omega) (by omega)
  have i2 := xB hX hW (i := i) (c := 2) h1.1 h1.2 (by omega) (by omega)
  have j2 := xB hX hW (i := j) (c := 2) h2.1 h2.2 (by omega) (by omega)
  have r3 := xR hX hW (r := A.B j 0) (c := 3) hbj.1.1 hbj.1.2 (by omega) (by omega)
  obtain ⟨q1a, q1b⟩ := h1
  obtain ⟨q2a, q2b⟩ := h2
  simp (disch := omega) only [nmD, bdS, b2S, lit32, iA, iS, iM, iN, iLt, iLe, iE, zlT, zlF, zleT, zleF, zeT, zeF, RdI, WrI, DvI, jmaxI, jminI, jabsI, bI0, Zb0, Zb1, ZbI, ↓reduceIte, not_true_eq_false, not_false_eq_true, ite_not, and_true, true_and, and_false, false_and, and_self, fX0_joinTeams, b1, b2, j0, d1, d2, q4, q5, i0, q6, i2, j2, r3]
end CA
