/-! One step of the law: rooms, vouchers, prices, settings. -/
def InvP (K : Int) (N : XLm) : Prop := ∃ (A : Ab) (G : Int), InvX K N.1 A ∧ RepL N.2 A G ∧ (0 ≤ G ∧ G ≤ 8 * K) ∧ Sma A ∧ MI A
/-- one step: it answers 1, and all holds on -/
def Go (K : Int) (o : Option (Int32 × XLm)) : Prop := ∃ N' : XLm, o = some (iI 1, N') ∧ InvP (K + 2) N'
def zer (f : Nat → Int32) (b i : Int) : Nat → Int32 := fun j => if b + i ≤ (j : Int) ∧ (j : Int) < b + 11 then iI 0 else f j
theorem lZer {x8 : Int32} {b : Int} (hb : 0 ≤ b ∧ b ≤ 22) (kk : XLm → Option (Int32 × XLm)) : ∀ (k fu : Nat) (i : Int) (N : XLm), 0 ≤ i → i + k = 11 → k < fu → fL_acts_l83 x8 (iI b) kk fu N (iI i) = kk (N.1, (N.2.1, N.2.2.1, zer N.2.2.2.1 b i, N.2.2.2.2)) := by
  obtain ⟨hb1, hb2⟩ := hb
  intro k
  induction k with
  | zero =>
    intro fu i N h0 h1 h2
    obtain ⟨fu, rfl⟩ : ∃ q, fu = q + 1 := ⟨fu - 1, by omega⟩
    have e : zer N.2.2.2.1 b i = N.2.2.2.1 := by
      funext j
      exact if_neg (by omega)
    rw [e, fL_acts_l83_s]
    clear e
    simp (disch := omega) only [MoI, nmD, bdS, b2S, lit32, iA, iS, iM, iN, iLt, iLe, iE, zlT, zlF, zleT, zleF, zeT, zeF, RdI, WrI, DvI, jmaxI, jminI, jabsI, bI0, Zb0, Zb1, ZbI, ↓reduceIte, not_true_eq_false, not_false_eq_true, ite_not, and_true, true_and, and_false, false_and, and_self]
  | succ k ih =>
    intro fu i N h0 h1 h2
    obtain ⟨fu, rfl⟩ : ∃ q, fu = q + 1 := ⟨fu - 1, by omega⟩
    have := ih fu (i + 1) (N.1, (N.2.1, N.2.2.1, upd N.2.2.2.1 (b + i).toNat (iI 0), N.2.2.2.2)) (by omega) (by omega) (by omega)
    have e : zer (upd N.2.2.2.1 (b + i).toNat (iI 0)) b (i + 1) = zer N.2.2.2.1 b i := by
      funext j
      unfold zer
      by_cases c : (j : Int) = b + i
      · rw [if_neg (by omega), if_pos (by omega), ud_e (by omega)]
      · by_cases c2 : b + i ≤ (j : Int) ∧ (j : Int) < b + 11
        · rw [if_pos (by omega), if_pos c2]
        · rw [if_neg (by omega), if_neg c2, ud_n (by omega)]
    have this : fL_acts_l83 x8 (iI b) kk fu (N.1, (N.2.1, N.2.2.1, upd N.2.2.2.1 (b + i).toNat (iI 0), N.2.2.2.2)) (iI (i + 1)) = kk (N.1, (N.2.1, N.2.2.1, zer (upd N.2.2.2.1 (b + i).toNat (iI 0)) b (i + 1), N.2.2.2.2)) := this
    rw [e] at this
    rw [← this, fL_acts_l83_s]
    clear ih this e
    simp (disch := omega) only [MoI, nmD, bdS, b2S, lit32, iA, iS, iM, iN, iLt, iLe, iE, zlT, zlF, zleT, zleF, zeT, zeF, RdI, WrI, DvI, jmaxI, jminI, jabsI, bI0, Zb0, Zb1, ZbI, ↓reduceIte, not_true_eq_false, not_false_eq_true, ite_not, and_true, true_and, and_false, false_and, and_self]
section AC1
variable {N : XLm} {A : Ab} {K G : Int}
theorem sma_gt (h : InvX K N.1 A) : 0 ≤ A.nR ∧ 0 ≤ A.nB ∧ 0 ≤ A.nV := by
  have := h.W.n
  omega
set_option maxHeartbeats 4000000 in
theorem aRoom (h : InvX K N.1 A) (hL : RepL N.2 A G) (hG : 0 ≤ G ∧ G ≤ 8 * K) (hm : Sma A) (hM : MI A) (hK : K + 2 ≤ 400) (q : A.nR < 3) {x : Int} (hx : 0 ≤ x ∧ x < 10000000) : Go K (fL_acts_j72 N (iI x)) := by
  have hn := h.W.n
  obtain ⟨m1, m2, m3⟩ := hm
  obtain ⟨hx1, hx2⟩ := hx
  have d1 := md_b x (b := 101) (by omega)
  have d2 := md_b (x / 101) (b := 61) (by omega)
  have d3 := md_b (x / 7) (b := 200) (by omega)
  have d4 := md_b (x / 11) (b := 7) (by omega)
  obtain ⟨V', v1, v2⟩ := cRoom h.X h.W (a := 20 + x % 101) (b := x / 101 % 61) (c := 1 + x / 7 % 200) (d := 2 + x / 11 % 7) (by omega) (by omega) (by omega) (by omega) (by omega)
  have hWf := (h.W.mono (K' := K + 2) (by omega) (by omega)).rm (a := 20 + x % 101) (b := x / 101 % 61) (c := 1 + x / 7 % 200) (d := 2 + x / 11 % 7) (by omega) (by omega) (by omega) (by omega) (by omega)
  obtain ⟨M', e1, e2⟩ := actOk h (cx := fun V => fX0_newRoom V (iI (20 + x % 101)) (iI (x / 101 % 61)) (iI (1 + x / 7 % 200)) (iI (2 + x / 11 % 7))) v1 (by omega) (by omega) v2 hWf
  have e1 : fX8_addRoom N.1 (iI (20 + x % 101)) (iI (x / 101 % 61)) (iI (1 + x / 7 % 200)) (iI (2 + x / 11 % 7)) = some (iI A.nR, M') := e1
  have g0 := hL.g0
  have hz := fun kk : XLm → Option (Int32 × XLm) => lZer (x8 := iI x) (b := 11 * A.nR) (by omega) kk 11 FU 0 N (by omega) (by omega) (by unfold FU; omega)
  have z0 : ∀ j : Int, 0 ≤ j → j < 11 * A.nR → zer N.2.2.2.1 (11 * A.nR) 0 j.toNat = N.2.2.2.1 j.toNat := fun j j0 j1 => if_neg (by omega)
  have z1 : ∀ k : Int, 4 ≤ k → k < 11 → zer N.2.2.2.1 (11 * A.nR) 0 (11 * A.nR + k).toNat = iI 0 := fun k k0 k1 => if_pos (by omega)
  generalize zer N.2.2.2.1 (11 * A.nR) 0 = Z at hz z0 z1
  have u0 : upd (upd (upd (upd Z (11 * A.nR).toNat (iI (20 + x % 101))) (11 * A.nR + 1).toNat (iI (x / 101 % 61))) (11 * A.nR + 2).toNat (iI (1 + x / 7 % 200))) (11 * A.nR + 3).toNat (iI (2 + x / 11 % 7)) (11 * A.nR).toNat = iI (20 + x % 101) := by
    rw [ud_n (by omega), ud_n (by omega), ud_n (by omega), ud_s]
  have u1 : upd (upd (upd (upd Z (11 * A.nR).toNat (iI (20 + x % 101))) (11 * A.nR + 1).toNat (iI (x / 101 % 61))) (11 * A.nR + 2).toNat (iI (1 + x / 7 % 200))) (11 * A.nR + 3).toNat (iI (2 + x / 11 % 7)) (11 * A.nR + 1).toNat = iI (x / 101 % 61) := by
    rw [ud_n (by omega), ud_n (by omega), ud_s]
  have u2 : upd (upd (upd (upd Z (11 * A.nR).toNat (iI (20 + x % 101))) (11 * A.nR + 1).toNat (iI (x / 101 % 61))) (11 * A.nR + 2).toNat (iI (1 + x / 7 % 200))) (11 * A.nR + 3).toNat (iI (2 + x / 11 % 7)) (11 * A.nR + 2).toNat = iI (1 + x / 7 % 200) := by
    rw [ud_n (by omega), ud_s]
  have u3 : upd (upd (upd (upd Z (11 * A.nR).toNat (iI (20 + x % 101))) (11 * A.nR + 1).toNat (iI (x / 101 % 61))) (11 * A.nR + 2).toNat (iI (1 + x / 7 % 200))) (11 * A.nR + 3).toNat (iI (2 + x / 11 % 7)) (11 * A.nR + 3).toNat = iI (2 + x / 11 % 7) := ud_s
  have ug : upd N.2.1 (0 : Int).toNat (iI (A.nR + 1)) (0 : Int).toNat = iI (A.nR + 1) := ud_s
  have hR := repL_rm hL hn.1 (r' := upd (upd (upd (upd Z (11 * A.nR).toNat (iI (20 + x % 101))) (11 * A.nR + 1).toNat (iI (x / 101 % 61))) (11 * A.nR + 2).toNat (iI (1 + x / 7 % 200))) (11 * A.nR + 3).toNat (iI (2 + x / 11 % 7))) (fun j j0 j1 => by rw [ud_n (by omega), ud_n (by omega), ud_n (by omega), ud_n (by omega)]; exact z0 j j0 j1) u0 u1 u2 u3 (fun k k0 k1 => by rw [ud_n (by omega), ud_n (by omega), ud_n (by omega), ud_n (by omega)]; exact z1 k k0 k1)
  refine ⟨(M', _), ?_, _, G, e2, hR, by omega, ⟨by show A.nR + 1 ≤ 3; omega, m2, m3⟩, hM⟩
  clear hR z0 z1 e2 v1 v2 hWf hL h hM d1 d2 d3 d4
  simp (disch := omega) only [MoI, nmD, bdS, b2S, lit32, iA, iS, iM, iN, iLt, iLe, iE, zlT, zlF, zleT, zleF, zeT, zeF, RdI, WrI, DvI, jmaxI, jminI, jabsI, bI0, Zb0, Zb1, ZbI, ↓reduceIte, not_true_eq_false, not_false_eq_true, ite_not, and_true, true_and, and_false, false_and, and_self, fL_acts_j72, g0, hz, u0, u1, u2, u3, ug, e1]
theorem aRoomF (h : InvX K N.1 A) (hL : RepL N.2 A G) (hG : 0 ≤ G ∧ G ≤ 8 * K) (hm : Sma A) (hM : MI A) (hK : K + 2 ≤ 400) (q : A.nR = 3) {x : Int32} : Go K (fL_acts_j32 N x) := by
  have hn := h.W.n
  have g0 := hL.g0
  obtain ⟨M1, e1, h1⟩ := actNo (K' := K) h (cx := fun V => fX0_newRoom V (iI 19) (iI 0) (iI 1) (iI 2)) (cRoomA h.X (by omega) (by omega) (by omega)) (by omega) (by omega) (by omega) (by omega)
  obtain ⟨M2, e2, h2⟩ := actNo (K' := K + 2) h1 (cx := fun V => fX0_newRoom V (iI 20) (iI 61) (iI 1) (iI 2)) (cRoomB h1.X (by omega) (by omega) (by omega) (by omega)) (by omega) (by omega) (by omega) (by omega)
  have e1 : fX8_addRoom N.1 (iI 19) (iI 0) (iI 1) (iI 2) = some (iI (-1), M1) := e1
  have e2 : fX8_addRoom M1 (iI 20) (iI 61) (iI 1) (iI 2) = some (iI (-1), M2) := e2
  refine ⟨(M2, N.2), ?_, A, G, h2, hL, by omega, hm, hM⟩
  clear h1 h2 h hL hM hm
  simp (disch := omega) only [MoI, nmD, bdS, b2S, lit32, iA, iS, iM, iN, iLt, iLe, iE, zlT, zlF, zleT, zleF, zeT, zeF, RdI, WrI, DvI, jmaxI, jminI, jabsI, bI0, Zb0, Zb1, ZbI, ↓reduceIte, not_true_eq_false, not_false_eq_true, ite_not, and_true, true_and, and_false, false_and, and_self, fL_acts_j32, g0, q, e1, e2]
theorem aRoom32 (h : InvX K N.1 A) (hL : RepL N.2 A G) (hG : 0 ≤ G ∧ G ≤ 8 * K) (hm : Sma A) (hM : MI A) (hK : K + 2 ≤ 400) {x : Int} (hx : 0 ≤ x ∧ x < 10000000) : Go K (fL_acts_j32 N (iI x)) := by
  by_cases q : A.nR = 3
  · exact aRoomF h hL hG hm hM hK q
  · have hn := h.W.n
    have g0 := hL.g0
    have m1 := hm.1
    have key := aRoom h hL hG hm hM hK (by omega) hx
    have e : fL_acts_j32 N (iI x) = fL_acts_j72 N (iI x) := by
      clear key h hL hM hm
      simp (disch := omega) only [MoI, nmD, bdS, b2S, lit32, iA, iS, iM, iN, iLt, iLe, iE, zlT, zlF, zleT, zleF, zeT, zeF, RdI, WrI, DvI, jmaxI, jminI, jabsI, bI0, Zb0, Zb1, ZbI, ↓reduceIte, not_true_eq_false, not_false_eq_true, ite_not, and_true, true_and, and_false, false_and, and_self, fL_acts_j32, g0]
    rw [e]
    exact key
set_option maxHeartbeats 4000000 in
theorem aGift (h : InvX K N.1 A) (hL : RepL N.2 A G) (hG : 0 ≤ G ∧ G ≤ 8 * K) (hm : Sma A) (hM : MI A) (hK : K + 2 ≤ 400) (q : A.nV < 4) {x : Int} (hx : 0 ≤ x ∧ x < 10000000) : Go K (fL_acts_j249 N (iI x)) := by
  have hn := h.W.n
  obtain ⟨m1, m2, m3⟩ := hm
  obtain ⟨hx1, hx2⟩ := hx
  have d1 := md_b x (b := 500) (by omega)
  obtain ⟨V', v1, v2⟩ := cGift h.X h.W (x := 1 + x % 500) (by omega) (by omega)
  have hWf := (h.W.mono (K' := K + 2) (by omega) (by omega)).gv (x := 1 + x % 500) (by omega) (by omega) (by omega)
  obtain ⟨M', e1, e2⟩ := actOk h (cx := fun V => fX0_newVoucher V (iI (1 + x % 500))) v1 (by omega) (by omega) v2 hWf
  have e1 : fX8_sellVoucher N.1 (iI (1 + x % 500)) = some (iI A.nV, M') := e1
  have g2 := hL.g2
  have u0 : upd N.2.2.2.2.2.2 (2 * A.nV).toNat (iI (1 + x % 500)) (2 * A.nV).toNat = iI (1 + x % 500) := ud_s
  have u1 : upd (upd N.2.2.2.2.2.2 (2 * A.nV).toNat (iI (1 + x % 500))) (2 * A.nV + 1).toNat (iI (1 + x % 500)) (2 * A.nV).toNat = iI (1 + x % 500) := by rw [ud_n (by omega), ud_s]
  have g3 := hL.g3
  have u2 : upd N.2.1 (3 : Int).toNat (iI (A.t + (1 + x % 500))) (2 : Int).toNat = iI A.nV := (ud_n (by decide)).trans g2
  have u3 : upd (upd N.2.1 (3 : Int).toNat (iI (A.t + (1 + x % 500)))) (2 : Int).toNat (iI (A.nV + 1)) (2 : Int).toNat = iI (A.nV + 1) := ud_s
  have hR := repL_gv hL hn.2.2.2.2.1 (x := 1 + x % 500) (v' := upd (upd N.2.2.2.2.2.2 (2 * A.nV).toNat (iI (1 + x % 500))) (2 * A.nV + 1).toNat (iI (1 + x % 500))) (fun j j0 j1 => by rw [ud_n (by omega), ud_n (by omega)]) u1 ud_s
  refine ⟨(M', _), ?_, _, G, e2, hR, by omega, ⟨m1, m2, by show A.nV + 1 ≤ 4; omega⟩, mi_gv hM hn.2.2.2.2.1 _⟩
  clear hR e2 v1 v2 hWf hL h hM d1
  simp (disch := omega) only [MoI, nmD, bdS, b2S, lit32, iA, iS, iM, iN, iLt, iLe, iE, zlT, zlF, zleT, zleF, zeT, zeF, RdI, WrI, DvI, jmaxI, jminI, jabsI, bI0, Zb0, Zb1, ZbI, ↓reduceIte, not_true_eq_false, not_false_eq_true, ite_not, and_true, true_and, and_false, false_and, and_self, fL_acts_j249, g2, u0, g3, u1, u2, u3, e1]
theorem aGiftF (h : InvX K N.1 A) (hL : RepL N.2 A G) (hG : 0 ≤ G ∧ G ≤ 8 * K) (hm : Sma A) (hM : MI A) (hK : K + 2 ≤ 400) (q : A.nV = 4) {x : Int32} {way : Int} (hw : 0 ≤ way ∧ way < 4) : Go K (fL_acts_j210 N x (iI way)) := by
  have hn := h.W.n
  obtain ⟨hw1, hw2⟩ := hw
  have g2 := hL.g2
  obtain ⟨M1, e1, h1⟩ := actNo (K' := K) h (cx := fun V => fX0_newVoucher V (iI 501)) (cGiftN h.X (by omega) (by omega) (by omega)) (by omega) (by omega) (by omega) (by omega)
  obtain ⟨M2, e2, h2⟩ := actNo (K' := K + 2) h1 (cx := fun V => fX0_newVoucher V (iI 0)) (cGiftN h1.X (by omega) (by omega) (by omega)) (by omega) (by omega) (by omega) (by omega)
  have e1 : fX8_sellVoucher N.1 (iI 501) = some (iI (-1), M1) := e1
  have e2 : fX8_sellVoucher M1 (iI 0) = some (iI (-1), M2) := e2
  refine ⟨(M2, N.2), ?_, A, G, h2, hL, by omega, hm, hM⟩
  clear h1 h2 h hL hM hm
  simp (disch := omega) only [MoI, nmD, bdS, b2S, lit32, iA, iS, iM, iN, iLt, iLe, iE, zlT, zlF, zleT, zleF, zeT, zeF, RdI, WrI, DvI, jmaxI, jminI, jabsI, bI0, Zb0, Zb1, ZbI, ↓reduceIte, not_true_eq_false, not_false_eq_true, ite_not, and_true, true_and, and_false, false_and, and_self, fL_acts_j210, g2, q, e1, e2]
theorem aGift210 (h : InvX K N.1 A) (hL : RepL N.2 A G) (hG : 0 ≤ G ∧ G ≤ 8 * K) (hm : Sma A) (hM : MI A) (hK : K + 2 ≤ 400) {x : Int} (hx : 0 ≤ x ∧ x < 10000000) {way : Int} (hw : 0 ≤ way ∧ way < 4) : Go K (fL_acts_j210 N (iI x) (iI way)) := by
  by_cases q : A.nV = 4
  · exact aGiftF h hL hG hm hM hK q hw
  · have hn := h.W.n
    have g2 := hL.g2
    have m3 := hm.2.2
    have key := aGift h hL hG hm hM hK (by omega) hx
    obtain ⟨hw1, hw2⟩ := hw
    have e : fL_acts_j210 N (iI x) (iI way) = fL_acts_j249 N (iI x) := by
      clear key h hL hM hm
      simp (disch := omega) only [MoI, nmD, bdS, b2S, lit32, iA, iS, iM, iN, iLt, iLe, iE, zlT, zlF, zleT, zleF, zeT, zeF, RdI, WrI, DvI, jmaxI, jminI, jabsI, bI0, Zb0, Zb1, ZbI, ↓reduceIte, not_true_eq_false, not_false_eq_true, ite_not, and_true, true_and, and_false, false_and, and_self, fL_acts_j210, g2]
    rw [e]
    exact key
theorem aPrice (h : InvX K N.1 A) (hL : RepL N.2 A G) (hG : 0 ≤ G ∧ G ≤ 8 * K) (hm : Sma A) (hM : MI A) (hK : K + 2 ≤ 400) {x room : Int} (hx : 0 ≤ x ∧ x < 10000000) (hr : 0 ≤ room ∧ room < A.nR) : Go K (fL_acts_j782 N (iI x) (iI room)) := by
  have hn := h.W.n
  obtain ⟨m1, m2, m3⟩ := hm
  obtain ⟨hx1, hx2⟩ := hx
  obtain ⟨hr1, hr2⟩ := hr
  have hrw := h.W.r hr1 hr2
  have d1 := md_b (x / 3) (b := 200) (by omega)
  obtain ⟨V', v1, v2⟩ := cPrice h.X h.W (x := room) (y := 1 + x / 3 % 200) ⟨hr1, hr2⟩ (by omega)
  have hWf := (h.W.mono (K' := K + 2) (by omega) (by omega)).setR2 (r := room) (v := 1 + x / 3 % 200) (by omega) (by omega)
  obtain ⟨M', e1, e2⟩ := actOk h (cx := fun V => fX0_changePrice V (iI room) (iI (1 + x / 3 % 200))) v1 (by omega) (by omega) v2 hWf
  have e1 : fX8_setPrice N.1 (iI room) (iI (1 + x / 3 % 200)) = some (iI (A.R room 2), M') := e1
  have r2 := hL.R (r := room) (c := 2) hr1 hr2 (by omega) (by omega)
  have u2 : upd N.2.2.2.1 (11 * room + 2).toNat (iI (1 + x / 3 % 200)) (11 * room + 2).toNat = iI (1 + x / 3 % 200) := ud_s
  have hR := RepL.setR hL (r := room) (c := 2) (v := 1 + x / 3 % 200) hr1 (by omega) (by omega)
  refine ⟨(M', _), ?_, _, G, e2, hR, by omega, ⟨m1, m2, m3⟩, hM⟩
  clear hR e2 v1 v2 hWf hL h hM d1
  simp (disch := omega) only [MoI, nmD, bdS, b2S, lit32, iA, iS, iM, iN, iLt, iLe, iE, zlT, zlF, zleT, zleF, zeT, zeF, RdI, WrI, DvI, jmaxI, jminI, jabsI, bI0, Zb0, Zb1, ZbI, ↓reduceIte, not_true_eq_false, not_false_eq_true, ite_not, and_true, true_and, and_false, false_and, and_self, fL_acts_j782, r2, u2, e1]
theorem aSet (h : InvX K N.1 A) (hL : RepL N.2 A G) (hG : 0 ≤ G ∧ G ≤ 8 * K) (hm : Sma A) (hM : MI A) (hK : K + 2 ≤ 400) {x : Int} (hx : 0 ≤ x ∧ x < 10000000) : Go K (fL_acts_j845 N (iI x)) := by
  have hn := h.W.n
  have hs := h.W.s
  obtain ⟨hx1, hx2⟩ := hx
  have d1 := md_b x (b := 5) (by omega)
  have key : ∀ (k y w : Int), 0 ≤ k → k ≤ 4 → 0 ≤ y → y < 100000000 → w = most k + 1 → Go K (fL_acts_j909 N (iI k) (iI (A.S k)) (iI k) (iI y) (iI w)) := by
    intro k y w k0 k1 y0 y1 hw
    have hmo := most_b k
    have d2 := md_b y (b := w) (by omega)
    have hs : 0 ≤ A.S k ∧ A.S k ≤ 60 := by
      rcases (show k = 0 ∨ k = 1 ∨ k = 2 ∨ k = 3 ∨ k = 4 by omega) with rfl | rfl | rfl | rfl | rfl <;> omega
    obtain ⟨V', v1, v2⟩ := cSet h.X h.W (x := k) (y := y % w) ⟨k0, k1⟩ (by omega)
    have hWf := (h.W.mono (K' := K + 2) (by omega) (by omega)).setS (k := k) (v := y % w) k0 k1 (by omega) (by omega)
    obtain ⟨M', e1, e2⟩ := actOk h (cx := fun V => fX0_changeSetting V (iI k) (iI (y % w))) v1 (by omega) (by omega) v2 hWf
    have e1 : fX8_set N.1 (iI k) (iI (y % w)) = some (iI (A.S k), M') := e1
    have u2 : upd N.2.2.1 k.toNat (iI (y % w)) k.toNat = iI (y % w) := ud_s
    have hR := RepL.setS hL (k := k) (v := y % w) k0
    refine ⟨(M', _), ?_, _, G, e2, hR, by omega, hm, hM⟩
    clear hR e2 v1 v2 hWf hL h hM hm
    simp (disch := omega) only [MoI, nmD, bdS, b2S, lit32, iA, iS, iM, iN, iLt, iLe, iE, zlT, zlF, zleT, zleF, zeT, zeF, RdI, WrI, DvI, jmaxI, jminI, jabsI, bI0, Zb0, Zb1, ZbI, ↓reduceIte, not_true_eq_false, not_false_eq_true, ite_not, and_true, true_and, and_false, false_and, and_self, fL_acts_j909, u2, e1]
  have ek := hL.e (k := x % 5) (by omega) (by omega)
  rcases (show x % 5 = 0 ∨ x % 5 = 1 ∨ x % 5 = 2 ∨ x % 5 = 3 ∨ x % 5 = 4 by omega) with c | c | c | c | c
  · have q := key (x % 5) (x / 5) 11 (by omega) (by omega) (by omega) (by omega) (by rw [c]; rfl)
    have e : fL_acts_j845 N (iI x) = fL_acts_j909 N (iI (x % 5)) (iI (A.S (x % 5))) (iI (x % 5)) (iI (x / 5)) (iI 11) := by
      clear q key h hL hM hm
      simp (disch := omega) only [MoI, nmD, bdS, b2S, lit32, iA, iS, iM, iN, iLt, iLe, iE, zlT, zlF, zleT, zleF, zeT, zeF, RdI, WrI, DvI, jmaxI, jminI, jabsI, bI0, Zb0, Zb1, ZbI, ↓reduceIte, not_true_eq_false, not_false_eq_true, ite_not, and_true, true_and, and_false, false_and, and_self, fL_acts_j845, ek]
    rw [e]
    exact q
  · have q := key (x % 5) (x / 5) 31 (by omega) (by omega) (by omega) (by omega) (by rw [c]; rfl)
    have e : fL_acts_j845 N (iI x) = fL_acts_j909 N (iI (x % 5)) (iI (A.S (x % 5))) (iI (x % 5)) (iI (x / 5)) (iI 31) := by
      clear q key h hL hM hm
      simp (disch := omega) only [MoI, nmD, bdS, b2S, lit32, iA, iS, iM, iN, iLt, iLe, iE, zlT, zlF, zleT, zleF, zeT, zeF, RdI, WrI, DvI, jmaxI, jminI, jabsI, bI0, Zb0, Zb1, ZbI, ↓reduceIte, not_true_eq_false, not_false_eq_true, ite_not, and_true, true_and, and_false, false_and, and_self, fL_acts_j845, ek]
    rw [e]
    exact q
  · have q := key (x % 5) (x / 5) 21 (by omega) (by omega) (by omega) (by omega) (by rw [c]; rfl)
    have e : fL_acts_j845 N (iI x) = fL_acts_j909 N (iI (x % 5)) (iI (A.S (x % 5))) (iI (x % 5)) (iI (x / 5)) (iI 21) := by
      clear q key h hL hM hm
      simp (disch := omega) only [MoI, nmD, bdS, b2S, lit32, iA, iS, iM, iN, iLt, iLe, iE, zlT, zlF, zleT, zleF, zeT, zeF, RdI, WrI, DvI, jmaxI, jminI, jabsI, bI0, Zb0, Zb1, ZbI, ↓reduceIte, not_true_eq_false, not_false_eq_true, ite_not, and_true, true_and, and_false, false_and, and_self, fL_acts_j845, ek]
    rw [e]
    exact q
  · have q := key (x % 5) (x / 5) 61 (by omega) (by omega) (by omega) (by omega) (by rw [c]; rfl)
    have e : fL_acts_j845 N (iI x) = fL_acts_j909 N (iI (x % 5)) (iI (A.S (x % 5))) (iI (x % 5)) (iI (x / 5)) (iI 61) := by
      clear q key h hL hM hm
      simp (disch := omega) only [MoI, nmD, bdS, b2S, lit32, iA, iS, iM, iN, iLt, iLe, iE, zlT, zlF, zleT, zleF, zeT, zeF, RdI, WrI, DvI, jmaxI, jminI, jabsI, bI0, Zb0, Zb1, ZbI, ↓reduceIte, not_true_eq_false, not_false_eq_true, ite_not, and_true, true_and, and_false, false_and, and_self, fL_acts_j845, ek]
    rw [e]
    exact q
  · have q := key (x % 5) (x / 5) 51 (by omega) (by omega) (by omega) (by omega) (by rw [c]; rfl)
    have e : fL_acts_j845 N (iI x) = fL_acts_j909 N (iI (x % 5)) (iI (A.S (x % 5))) (iI (x % 5)) (iI (x / 5)) (iI 51) := by
      clear q key h hL hM hm
      simp (disch := omega) only [MoI, nmD, bdS, b2S, lit32, iA, iS, iM, iN, iLt, iLe, iE, zlT, zlF, zleT, zleF, zeT, zeF, RdI, WrI, DvI, jmaxI, jminI, jabsI, bI0, Zb0, Zb1, ZbI, ↓reduceIte, not_true_eq_false, not_false_eq_true, ite_not, and_true, true_and, and_false, false_and, and_self, fL_acts_j845, ek]
    rw [e]
    exact q
theorem aEmpty (h : InvX K N.1 A) (hL : RepL N.2 A G) (hG : 0 ≤ G ∧ G ≤ 8 * K) (hm : Sma A) (hM : MI A) (hK : K + 2 ≤ 400) (q : A.nB = 0) {x w : Int32} : Go K (fL_acts_j932 N x w) := by
  have hn := h.W.n
  have g1 := hL.g1
  have no : ¬ ((0 : Int) ≤ 0 ∧ (0 : Int) < A.nB) := by omega
  obtain ⟨M1, e1, h1⟩ := actNo (K' := K) h (cx := fun V => fX0_callOff V (iI 0)) (cDropO h.X h.W (by omega) (by omega) no) (by omega) (by omega) (by omega) (by omega)
  obtain ⟨M2, e2, h2⟩ := actNo (K' := K) h1 (cx := fun V => fX0_changeTime V (iI 0) (iI 0)) (cMoveO h1.X h1.W (by omega) (by omega) no) (by omega) (by omega) (by omega) (by omega)
  obtain ⟨M3, e3, h3⟩ := actNo (K' := K) h2 (cx := fun V => fX0_joinTeams V (iI 0) (iI 1)) (cJoinO h2.X h2.W (by omega) (by omega) no) (by omega) (by omega) (by omega) (by omega)
  obtain ⟨M4, e4, h4⟩ := actNo (K' := K + 2) h3 (cx := fun V => fX0_letPlay V (iI 0) (iI 0) (iI 0) (iI 0)) (cPlayO h3.X h3.W (by omega) (by omega) no) (by omega) (by omega) (by omega) (by omega)
  have e1 : fX8_cancel N.1 (iI 0) = some (iI (-1), M1) := e1
  have e2 : fX8_move M1 (iI 0) (iI 0) = some (iI (-1), M2) := e2
  have e3 : fX8_merge M2 (iI 0) (iI 1) = some (iI (-1), M3) := e3
  have e4 : fX8_play M3 (iI 0) (iI 0) (iI 0) (iI 0) = some (iI (-1), M4) := e4
  refine ⟨(M4, N.2), ?_, A, G, h4, hL, by omega, hm, hM⟩
  clear h1 h2 h3 h4 h hL hM hm
  simp (disch := omega) only [MoI, nmD, bdS, b2S, lit32, iA, iS, iM, iN, iLt, iLe, iE, zlT, zlF, zleT, zleF, zeT, zeF, RdI, WrI, DvI, jmaxI, jminI, jabsI, bI0, Zb0, Zb1, ZbI, ↓reduceIte, not_true_eq_false, not_false_eq_true, ite_not, and_true, true_and, and_false, false_and, and_self, fL_acts_j932, g1, q, e1, e2, e3, e4]
end AC1
