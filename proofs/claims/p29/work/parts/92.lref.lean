/-! What the law refunds. -/
theorem g_n {f : Nat → Int32} {x y : Int32} {a b : Nat} (h : b < a ∨ a < b) (e : f b = y) : upd f a x b = y := (ud_n h).trans e
section LSE
variable {L : La} {A : Ab} {G : Int}
theorem RepL.setB (h : RepL L A G) {i c v : Int} (a1 : 0 ≤ i) (a3 : 0 ≤ c) (a4 : c < 9) : RepL (L.1, L.2.1, L.2.2.1, upd L.2.2.2.1 (9 * i + c).toNat (iI v), L.2.2.2.2) (A.setB i c v) G := by
  obtain ⟨h1, h2, h3, h4, h5, h6⟩ := h
  refine ⟨h1, h2, h3, fun x y q1 q2 q3 q4 => ?_, h5, h6⟩
  show upd L.2.2.2.1 (9 * i + c).toNat (iI v) (9 * x + y).toNat = iI (up2 A.B i c v x y)
  by_cases e : x = i ∧ y = c
  · obtain ⟨rfl, rfl⟩ := e
    rw [ud_s, up2_s]
  · rw [ud_n (by omega), h4 x y q1 q2 q3 q4]
    exact congrArg iI (if_neg e).symm
theorem RepL.setR (h : RepL L A G) {r c v : Int} (a1 : 0 ≤ r) (a3 : 0 ≤ c) (a4 : c < 11) : RepL (L.1, L.2.1, upd L.2.2.1 (11 * r + c).toNat (iI v), L.2.2.2) (A.setR r c v) G := by
  obtain ⟨h1, h2, h3, h4, h5, h6⟩ := h
  refine ⟨h1, h2, fun x y q1 q2 q3 q4 => ?_, h4, h5, h6⟩
  show upd L.2.2.1 (11 * r + c).toNat (iI v) (11 * x + y).toNat = iI (up2 A.R r c v x y)
  by_cases e : x = r ∧ y = c
  · obtain ⟨rfl, rfl⟩ := e
    rw [ud_s, up2_s]
  · rw [ud_n (by omega), h3 x y q1 q2 q3 q4]
    exact congrArg iI (if_neg e).symm
theorem RepL.setS (h : RepL L A G) {k v : Int} (a1 : 0 ≤ k) : RepL (L.1, upd L.2.1 k.toNat (iI v), L.2.2) (A.setS k v) G := by
  obtain ⟨h1, h2, h3, h4, h5, h6⟩ := h
  refine ⟨h1, fun x q1 q2 => ?_, h3, h4, h5, h6⟩
  show upd L.2.1 k.toNat (iI v) x.toNat = iI (up1 A.S k v x)
  by_cases e : x = k
  · subst e
    rw [ud_s, up1_s]
  · rw [ud_n (by omega), h2 x q1 q2]
    exact congrArg iI (if_neg e).symm
theorem RepL.setT (h : RepL L A G) {v : Int} : RepL (upd L.1 (3 : Int).toNat (iI v), L.2) (A.setT v) G := by
  obtain ⟨⟨a0, a1, a2, a3, a4⟩, h2⟩ := h
  have k : ∀ (j : Nat) (y : Int32), (j < (3 : Int).toNat ∨ (3 : Int).toNat < j) → L.1 j = y → upd L.1 (3 : Int).toNat (iI v) j = y := fun j y hj e => (ud_n hj).trans e
  have k3 : upd L.1 (3 : Int).toNat (iI v) (3 : Int).toNat = iI v := ud_s
  exact ⟨⟨k (0 : Int).toNat _ (by decide) a0, k (1 : Int).toNat _ (by decide) a1, k (2 : Int).toNat _ (by decide) a2, k3, k (4 : Int).toNat _ (by decide) a4⟩, h2⟩
def stL (L : La) (A : Ab) (p l : Int) : La := (L.1, L.2.1, L.2.2.1, L.2.2.2.1, upd L.2.2.2.2.1 (4 * p + 1).toNat (iI (A.U p - min l (A.U p))), upd L.2.2.2.2.2 (2 * A.F p + 1).toNat (iI (A.V (A.F p) 1 + min l (A.U p))))
theorem RQ.stq {qf : Nat → Int32} {ow st : Int → Int} (hQ : RQ qf A G ow st) {p l : Int} (p0 : 0 ≤ p) : RQ (upd qf (4 * p + 1).toNat (iI (A.U p - min l (A.U p)))) (stq A p l) G ow st := by
  obtain ⟨q1, q2, q3⟩ := hQ
  refine ⟨fun x x0 x1 => ?_, q2, q3⟩
  obtain ⟨o2, o3, o4, o5, o6⟩ := q1 x x0 x1
  refine ⟨(ud_n (by omega)).trans o2, (ud_n (by omega)).trans o3, o4, o5, fun z => ?_⟩
  obtain ⟨o7, o8, o9⟩ := o6 z
  refine ⟨(ud_n (by omega)).trans o7, ?_, o9⟩
  show upd qf (4 * p + 1).toNat (iI (A.U p - min l (A.U p))) (4 * x + 1).toNat = iI (up1 A.U p (A.U p - min l (A.U p)) x)
  by_cases e : x = p
  · subst e
    rw [ud_s, up1_s]
  · rw [ud_n (by omega), up1_n _ _ (by omega)]
    exact o8
theorem RepL.stq (h : RepL L A G) {p l : Int} (p0 : 0 ≤ p) (f0 : 0 ≤ A.F p) : RepL (stL L A p l) (stq A p l) G := by
  obtain ⟨h1, h2, h3, h4, h5, ow, st, h6⟩ := h
  refine ⟨h1, h2, h3, h4, fun x y q1 q2 q3 q4 => ?_, ow, st, h6.stq p0⟩
  show upd L.2.2.2.2.2 (2 * A.F p + 1).toNat (iI (A.V (A.F p) 1 + min l (A.U p))) (2 * x + y).toNat = iI (up2 A.V (A.F p) 1 (A.V (A.F p) 1 + min l (A.U p)) x y)
  by_cases e : x = A.F p ∧ y = 1
  · obtain ⟨rfl, rfl⟩ := e
    rw [ud_s, up2_s]
  · rw [ud_n (by omega), h5 x y q1 q2 q3 q4]
    exact congrArg iI (if_neg e).symm
end LSE
section LRF
variable {L : La} {A : Ab} {G : Int} {ow st : Int → Int}
theorem lRf0 (g1 : L.1 (1 : Int).toNat = iI A.nB) (hQ : RQ L.2.2.2.2.1 A G ow st) (hN : 0 ≤ A.nB ∧ A.nB ≤ 7) {i n l : Int} (hi : 0 ≤ i ∧ i ≤ 100) (hn : 0 ≤ n ∧ n ≤ 100000) (hG : G ≤ 100000) (kk : La → Int32 → Option La) : ∀ (k fu : Nat) (p : Int), 0 ≤ p → p + k = A.nB → k < fu → (∀ x : Int, p ≤ x → x < A.nB → ow x = i → st x ≠ n) → fL_refunds_l91 (iI i) (iI n) kk fu L (iI l) (iI p) = kk L (iI l) := by
  obtain ⟨hN1, hN2⟩ := hN
  obtain ⟨hi1, hi2⟩ := hi
  obtain ⟨hn1, hn2⟩ := hn
  intro k
  induction k with
  | zero =>
    intro fu p p0 p1 p2 _
    obtain ⟨fu, rfl⟩ : ∃ q, fu = q + 1 := ⟨fu - 1, by omega⟩
    rw [fL_refunds_l91_s]
    simp (disch := omega) only [MoI, nmD, bdS, b2S, lit32, iA, iS, iM, iN, iLt, iLe, iE, zlT, zlF, zleT, zleF, zeT, zeF, RdI, WrI, DvI, jmaxI, jminI, jabsI, bI0, Zb0, Zb1, ZbI, ↓reduceIte, not_true_eq_false, not_false_eq_true, ite_not, and_true, true_and, and_false, false_and, and_self, g1]
  | succ k ih =>
    intro fu p p0 p1 p2 hno
    obtain ⟨fu, rfl⟩ : ∃ q, fu = q + 1 := ⟨fu - 1, by omega⟩
    obtain ⟨o2, o3, o4, o5, o6⟩ := hQ.1 p p0 (by omega)
    have := ih fu (p + 1) (by omega) (by omega) (by omega) (fun x x0 x1 => hno x (by omega) x1)
    have hp := hno p (by omega) (by omega)
    rw [← this, fL_refunds_l91_s]
    clear ih this hQ o6 hno
    by_cases c : ow p = i
    · have hs : st p < n ∨ n < st p := by have := hp c; omega
      clear hp
      simp (disch := omega) only [MoI, nmD, bdS, b2S, lit32, iA, iS, iM, iN, iLt, iLe, iE, zlT, zlF, zleT, zleF, zeT, zeF, RdI, WrI, DvI, jmaxI, jminI, jabsI, bI0, Zb0, Zb1, ZbI, ↓reduceIte, not_true_eq_false, not_false_eq_true, ite_not, and_true, true_and, and_false, false_and, and_self, g1, o2, o3, c, fL_refunds_j190]
    · clear hp
      simp (disch := omega) only [MoI, nmD, bdS, b2S, lit32, iA, iS, iM, iN, iLt, iLe, iE, zlT, zlF, zleT, zleF, zeT, zeF, RdI, WrI, DvI, jmaxI, jminI, jabsI, bI0, Zb0, Zb1, ZbI, ↓reduceIte, not_true_eq_false, not_false_eq_true, ite_not, and_true, true_and, and_false, false_and, and_self, g1, o2, o3, fL_refunds_j190]
theorem lRf1 (h : RepL L A G) (hQ : RQ L.2.2.2.2.1 A G ow st) (hN : 0 ≤ A.nB ∧ A.nB ≤ 7 ∧ A.nV ≤ 4) {i n l p : Int} (hi : 0 ≤ i ∧ i ≤ 100) (hn : 0 ≤ n ∧ n ≤ 100000) (hG : G ≤ 100000) (hl : 0 ≤ l ∧ l ≤ 1600) (p0 : 0 ≤ p) (p1 : p < A.nB) (hF : 0 ≤ A.F p ∧ A.F p < A.nV) (hU : 0 ≤ A.U p ∧ A.U p ≤ 1600) (e1 : ow p = i) (e2 : st p = n) (kk : La → Int32 → Option La) (fu : Nat) : fL_refunds_l91 (iI i) (iI n) kk (fu + 1) L (iI l) (iI p) = fL_refunds_l91 (iI i) (iI n) kk fu (stL L A p l) (iI (l - min l (A.U p))) (iI (p + 1)) := by
  obtain ⟨hN1, hN2, hN3⟩ := hN
  obtain ⟨hi1, hi2⟩ := hi
  obtain ⟨hn1, hn2⟩ := hn
  obtain ⟨hl1, hl2⟩ := hl
  obtain ⟨hF1, hF2⟩ := hF
  obtain ⟨hU1, hU2⟩ := hU
  have g1 := h.g1
  obtain ⟨o2, o3, o4, o5, o6⟩ := hQ.1 p p0 p1
  obtain ⟨o7, o8, o9⟩ := o6 (by omega)
  have v1 := h.V (v := A.F p) (c := 1) hF1 hF2 (by omega) (by omega)
  clear o6 o9 hQ h
  rw [fL_refunds_l91_s]
  unfold stL
  by_cases c : l ≤ A.U p
  · have em : min l (A.U p) = l := by omega
    have g : upd L.2.2.2.2.1 (4 * p + 1).toNat (iI (A.U p - l)) (4 * p).toNat = iI (A.F p) := (ud_n (by omega)).trans o7
    rw [em]
    clear em
    simp (disch := omega) only [MoI, nmD, bdS, b2S, lit32, iA, iS, iM, iN, iLt, iLe, iE, zlT, zlF, zleT, zleF, zeT, zeF, RdI, WrI, DvI, jmaxI, jminI, jabsI, bI0, Zb0, Zb1, ZbI, ↓reduceIte, not_true_eq_false, not_false_eq_true, ite_not, and_true, true_and, and_false, false_and, and_self, g1, o2, o3, o8, e1, e2, v1, g, fL_refunds_j151, fL_refunds_j190]
  · have em : min l (A.U p) = A.U p := by omega
    have g : upd L.2.2.2.2.1 (4 * p + 1).toNat (iI (A.U p - A.U p)) (4 * p).toNat = iI (A.F p) := (ud_n (by omega)).trans o7
    rw [em]
    clear em
    simp (disch := omega) only [MoI, nmD, bdS, b2S, lit32, iA, iS, iM, iN, iLt, iLe, iE, zlT, zlF, zleT, zleF, zeT, zeF, RdI, WrI, DvI, jmaxI, jminI, jabsI, bI0, Zb0, Zb1, ZbI, ↓reduceIte, not_true_eq_false, not_false_eq_true, ite_not, and_true, true_and, and_false, false_and, and_self, g1, o2, o3, o8, e1, e2, v1, g, fL_refunds_j151, fL_refunds_j190]
theorem lRfI (h : RepL L A G) (hQ : RQ L.2.2.2.2.1 A G ow st) (hN : 0 ≤ A.nB ∧ A.nB ≤ 7 ∧ A.nV ≤ 4) {i n l y : Int} (hi : 0 ≤ i ∧ i ≤ 100) (hn : 0 ≤ n ∧ n ≤ 100000) (hG : G ≤ 100000) (hl : 0 ≤ l ∧ l ≤ 1600) (y0 : 0 ≤ y) (y1 : y < A.nB) (hF : 0 ≤ A.F y ∧ A.F y < A.nV) (hU : 0 ≤ A.U y ∧ A.U y ≤ 1600) (e1 : ow y = i) (e2 : st y = n) (hun : ∀ x : Int, 0 ≤ x → x < A.nB → ow x = i → st x = n → x = y) (kk : La → Int32 → Option La) : ∀ (k fu : Nat) (p : Int), 0 ≤ p → p ≤ y → p + k = A.nB → k < fu → fL_refunds_l91 (iI i) (iI n) kk fu L (iI l) (iI p) = kk (stL L A y l) (iI (l - min l (A.U y))) := by
  intro k
  induction k with
  | zero =>
    intro fu p p0 p1 p2
    omega
  | succ k ih =>
    intro fu p p0 py p1 p2
    obtain ⟨fu, rfl⟩ : ∃ q, fu = q + 1 := ⟨fu - 1, by omega⟩
    by_cases c : p = y
    · subst c
      rw [lRf1 h hQ hN hi hn hG hl p0 (by omega) hF hU e1 e2 kk fu]
      exact lRf0 (L := stL L A p l) (A := stq A p l) (G := G) (ow := ow) (st := st) h.g1 (hQ.stq p0) ⟨hN.1, hN.2.1⟩ hi hn hG kk k fu (p + 1) (by omega) (by show p + 1 + (k : Int) = A.nB; omega) (by omega) (fun x x0 x1 x2 x3 => by
        have := hun x (by omega) x1 x2 x3
        omega)
    · obtain ⟨o2, o3, o4, o5, o6⟩ := hQ.1 p p0 (by omega)
      have := ih fu (p + 1) (by omega) (by omega) (by omega) (by omega)
      have hp : ow p = i → st p ≠ n := fun z1 z2 => c (hun p p0 (by omega) z1 z2)
      have g1 := h.g1
      obtain ⟨hN1, hN2, hN3⟩ := hN
      obtain ⟨hi1, hi2⟩ := hi
      obtain ⟨hn1, hn2⟩ := hn
      have hpn : p < A.nB := by omega
      rw [← this, fL_refunds_l91_s]
      clear ih this hQ o6 hun h
      by_cases c : ow p = i
      · have hs : st p < n ∨ n < st p := by have := hp c; omega
        clear hp
        simp (disch := omega) only [MoI, nmD, bdS, b2S, lit32, iA, iS, iM, iN, iLt, iLe, iE, zlT, zlF, zleT, zleF, zeT, zeF, RdI, WrI, DvI, jmaxI, jminI, jabsI, bI0, Zb0, Zb1, ZbI, ↓reduceIte, not_true_eq_false, not_false_eq_true, ite_not, and_true, true_and, and_false, false_and, and_self, g1, o2, o3, c, fL_refunds_j190]
      · clear hp
        simp (disch := omega) only [MoI, nmD, bdS, b2S, lit32, iA, iS, iM, iN, iLt, iLe, iE, zlT, zlF, zleT, zleF, zeT, zeF, RdI, WrI, DvI, jmaxI, jminI, jabsI, bI0, Zb0, Zb1, ZbI, ↓reduceIte, not_true_eq_false, not_false_eq_true, ite_not, and_true, true_and, and_false, false_and, and_self, g1, o2, o3, fL_refunds_j190]
theorem lRf {K i C z : Int} (hC : C ≤ 500 + 2000 * K) (hG : G ≤ 50000) : ∀ (n fu m : Nat) (l : Int) (A : Ab) (L : La), RepL L A G → RQ L.2.2.2.2.1 A G ow st → WF K (A.setB i 3 z) → RI C (A.setB i 3 z) i l → (A.nB ≤ 7 ∧ A.nV ≤ 4) → (m : Int) ≤ len (A.rows i) → (∀ j : Int, 0 ≤ j → j < len (A.rows i) → (j < m ↔ st (at' (A.rows i) j) < n)) → n ≤ 60000 → n < fu → ∃ L' : La, fL_refunds_l83 (iI i) fu L (iI l) (iI ((n : Int) - 1)) = some L' ∧ RepL L' (rf i m l A).1 G := by
  intro n
  induction n with
  | zero =>
    intro fu m l A L hL hQ hW hI hN hm hst hn hfu
    obtain ⟨fu, rfl⟩ : ∃ q, fu = q + 1 := ⟨fu - 1, by omega⟩
    have h0 : m = 0 := by
      by_cases e : m = 0
      · exact e
      · exfalso
        have h1 := (hst ((m : Int) - 1) (by omega) (by omega)).mp (by omega)
        have hmem := at_mem (l := A.rows i) (k := (m : Int) - 1) (by omega) (by omega)
        have hpw := hW.p (i := i) hI.2.2.1.1 hI.2.2.1.2.1 hmem
        have := (hQ.1 _ hpw.1.1 hpw.1.2).2.2.2.1
        omega
    subst h0
    refine ⟨L, ?_, hL⟩
    clear hst hI hW hQ hL
    rw [fL_refunds_l83_s]
    simp (disch := omega) only [MoI, nmD, bdS, b2S, lit32, iA, iS, iM, iN, iLt, iLe, iE, zlT, zlF, zleT, zleF, zeT, zeF, RdI, WrI, DvI, jmaxI, jminI, jabsI, bI0, Zb0, Zb1, ZbI, ↓reduceIte, not_true_eq_false, not_false_eq_true, ite_not, and_true, true_and, and_false, false_and, and_self]
  | succ n ih =>
    intro fu m l A L hL hQ hW hI hN hm hst hn hfu
    obtain ⟨fu, rfl⟩ : ∃ q, fu = q + 1 := ⟨fu - 1, by omega⟩
    obtain ⟨l0, l1, ⟨i0, i1, i2⟩, hv⟩ := id hI
    have i1 : i < A.nB := i1
    have hNN : 0 ≤ A.nR ∧ A.nR ≤ 4 ∧ 0 ≤ A.nB ∧ A.nB ≤ 16 ∧ 0 ≤ A.nV ∧ A.nV ≤ 8 ∧ 0 ≤ K ∧ K ≤ 80000 := hW.n
    have em : ((n + 1 : Nat) : Int) - 1 = n := by omega
    have e0 : ∀ (L : La) (l : Int), fL_refunds_l83 (iI i) (fu + 1) L (iI l) (iI (n : Int)) = fL_refunds_l91 (iI i) (iI n) (fun M38 y37 => fL_refunds_l83 (iI i) fu M38 y37 (iI ((n : Int) - 1))) FU L (iI l) (iI 0) := fun L l => by
      rw [fL_refunds_l83_s]
      clear ih hst hI hW hQ hL hv
      simp (disch := omega) only [MoI, nmD, bdS, b2S, lit32, iA, iS, iM, iN, iLt, iLe, iE, zlT, zlF, zleT, zleF, zeT, zeF, RdI, WrI, DvI, jmaxI, jminI, jabsI, bI0, Zb0, Zb1, ZbI, ↓reduceIte, not_true_eq_false, not_false_eq_true, ite_not, and_true, true_and, and_false, false_and, and_self]
      rfl
    rw [em, e0]
    by_cases c : ∃ y : Int, 0 ≤ y ∧ y < len (A.rows i) ∧ st (at' (A.rows i) y) = n
    · obtain ⟨y, y0, y1, y2⟩ := c
      have ym : y = (m : Int) - 1 := by
        have h1 := (hst y y0 y1).mpr (by omega)
        by_cases e : y = (m : Int) - 1
        · exact e
        · exfalso
          have h2 := (hst ((m : Int) - 1) (by omega) (by omega)).mp (by omega)
          have h3 := hQ.2.2 i y ((m : Int) - 1) i0 i1 y0 (by omega) (by omega)
          omega
      obtain ⟨m, rfl⟩ : ∃ q, m = q + 1 := ⟨m - 1, by omega⟩
      have ym : y = m := by omega
      subst ym
      obtain ⟨p1, p2, p3⟩ := nodup_at (A := A.setB i 3 z) hW i0 i1 (k := (m : Int)) (by omega) y1
      have p1 : 0 ≤ at' (A.rows i) m ∧ at' (A.rows i) m < A.nB := p1
      have p2 : 0 ≤ A.F (at' (A.rows i) m) ∧ A.F (at' (A.rows i) m) < A.nV := p2
      have p3 : 0 ≤ A.U (at' (A.rows i) m) ∧ A.U (at' (A.rows i) m) ≤ 1600 := p3
      have hmem := at_mem (l := A.rows i) (k := (m : Int)) (by omega) y1
      have hun : ∀ x : Int, 0 ≤ x → x < A.nB → ow x = i → st x = n → x = at' (A.rows i) m := fun x x0 x1 x2 x3 => by
        have hx := ((hQ.1 x x0 x1).2.2.2.2 (by omega)).2.2
        rw [x2] at hx
        obtain ⟨k, k0, k1, k2⟩ := at_of hx
        rcases Int.lt_trichotomy k m with q | q | q
        · have := hQ.2.2 i k m i0 i1 k0 q y1
          rw [k2] at this
          omega
        · rw [← k2, q]
        · have := hQ.2.2 i m k i0 i1 (by omega) q k1
          rw [k2] at this
          omega
      rw [lRfI hL hQ ⟨hNN.2.2.1, hN.1, hN.2⟩ ⟨i0, by omega⟩ ⟨by omega, by omega⟩ (by omega) ⟨l0, l1⟩ p1.1 p1.2 p2 p3 (hQ.2.1 i _ i0 i1 hmem) y2 hun _ A.nB.toNat FU 0 (by omega) p1.1 (by omega) (by unfold FU; omega)]
      obtain ⟨w1, w2⟩ := WF.st hW hI (k := m) y1 hC
      have w1 : WF K ((stp A i m l).setB i 3 z) := w1
      have w2 : RI C ((stp A i m l).setB i 3 z) i (l - min l (A.U (at' (A.rows i) m))) := w2
      have hL2 : RepL (stL L A (at' (A.rows i) m) l) (stp A i m l) G := hL.stq p1.1 p2.1
      have hQ2 : RQ (stL L A (at' (A.rows i) m) l).2.2.2.2.1 (stp A i m l) G ow st := hQ.stq p1.1
      rw [rf_s]
      exact ih fu m (l - min l (A.U (at' (A.rows i) m))) (stp A i m l) _ hL2 hQ2 w1 w2 hN (by show (m : Int) ≤ len (A.rows i); omega) (fun j j0 j1 => by
        have j1 : j < len (A.rows i) := j1
        show j < (m : Int) ↔ st (at' (A.rows i) j) < n
        have h1 := hst j j0 j1
        rcases Int.lt_trichotomy j m with q | q | q
        · have := hQ.2.2 i j m i0 i1 j0 q y1
          exact ⟨fun _ => by omega, fun _ => q⟩
        · rw [q, y2]
          omega
        · have := hQ.2.2 i m j i0 i1 (by omega) q j1
          omega) (by omega) (by omega)
    · rw [lRf0 hL.g1 hQ ⟨hNN.2.2.1, hN.1⟩ ⟨i0, by omega⟩ ⟨by omega, by omega⟩ (by omega) _ A.nB.toNat FU 0 (by omega) (by omega) (by unfold FU; omega) (fun x x0 x1 x2 x3 => by
        have hx := ((hQ.1 x x0 x1).2.2.2.2 (by omega)).2.2
        rw [x2] at hx
        obtain ⟨k, k0, k1, k2⟩ := at_of hx
        exact c ⟨k, k0, k1, by rw [k2]; exact x3⟩)]
      exact ih fu m l A L hL hQ hW hI hN hm (fun j j0 j1 => by
        have h1 := hst j j0 j1
        have h2 : st (at' (A.rows i) j) ≠ n := fun e => c ⟨j, j0, j1, e⟩
        omega) (by omega) (by omega)
end LRF
section LRW
variable {L : La} {A : Ab} {G K : Int}
set_option maxHeartbeats 4000000 in
theorem lRefund {i0 : Int} (hL : RepL L A G) (hm : Sma A) (hG0 : 0 ≤ G) (hG : G ≤ 50000) {z : Int} (hz : z ≠ 0) (hW : WF K (A.setB i0 3 z)) (hK : K + 1 ≤ 80000) {a : Int} (h1 : 0 ≤ i0) (h2 : i0 < A.nB) (h4 : 0 ≤ a) (h5 : a ≤ 1600) (h6 : a ≤ A.B i0 5 + rsum A i0) : ∃ L' : La, fL_refunds L (iI i0) (iI a) = some L' ∧ RepL L' (rfA A i0 a) G := by
  have hn : 0 ≤ A.nR ∧ A.nR ≤ 4 ∧ 0 ≤ A.nB ∧ A.nB ≤ 16 ∧ 0 ≤ A.nV ∧ A.nV ≤ 8 ∧ 0 ≤ K ∧ K ≤ 80000 := hW.n
  have e5 : (A.setB i0 3 z).B i0 5 = A.B i0 5 := up2_n _ _ (by omega)
  have e6 : (A.setB i0 3 z).B i0 6 = A.B i0 6 := up2_n _ _ (by omega)
  have e3 : (A.setB i0 3 z).B i0 3 = z := up2_s _ _ _ _
  have hb : 0 ≤ A.B i0 5 ∧ A.B i0 5 ≤ 1600 := by
    have := (hW.b (i := i0) h1 h2).2.2.2.2.2
    rw [e5] at this
    exact this
  have hln : 0 ≤ len (A.rows i0) ∧ len (A.rows i0) ≤ 16 := hW.ln h1 h2
  obtain ⟨w1, w2, w3, w4⟩ := rfA_pre hW hK h1 h2 (by rw [e3]; exact hz) h4 h5 (by rw [e5]; exact h6)
  rw [e5] at w1 w2
  have r1 := RepL.setB hL (i := i0) (c := 5) (v := A.B i0 5 - min a (A.B i0 5)) h1 (by omega) (by omega)
  have r2 := RepL.setB r1 (i := i0) (c := 6) (v := A.B i0 6 + a) h1 (by omega) (by omega)
  have r3 := RepL.setT r2 (v := A.t - min a (A.B i0 5))
  have hWm : WF (K + 1) ((((A.setB i0 5 (A.B i0 5 - min a (A.B i0 5))).setB i0 6 (A.B i0 6 + a)).setT (A.t - min a (A.B i0 5))).setB i0 3 z) := by
    have q := (w1.setB6 (i := i0) (c := 6) (v := A.B i0 6 + a) (by omega))
    have e : (((A.setB i0 3 z).setB i0 5 (A.B i0 5 - min a (A.B i0 5))).setT ((A.setB i0 3 z).t - min a (A.B i0 5))).setB i0 6 (A.B i0 6 + a) = (((A.setB i0 5 (A.B i0 5 - min a (A.B i0 5))).setB i0 6 (A.B i0 6 + a)).setT (A.t - min a (A.B i0 5))).setB i0 3 z := by
      have q1 := setB_comm (A.setB i0 5 (A.B i0 5 - min a (A.B i0 5))) (r := i0) (c := 3) (v := z) (c' := 6) (v' := A.B i0 6 + a) (by omega)
      have q2 := setB_comm A (r := i0) (c := 3) (v := z) (c' := 5) (v' := A.B i0 5 - min a (A.B i0 5)) (by omega)
      show (((A.setB i0 3 z).setB i0 5 (A.B i0 5 - min a (A.B i0 5))).setB i0 6 (A.B i0 6 + a)).setT (A.t - min a (A.B i0 5)) = (((A.setB i0 5 (A.B i0 5 - min a (A.B i0 5))).setB i0 6 (A.B i0 6 + a)).setB i0 3 z).setT (A.t - min a (A.B i0 5))
      rw [q2, q1]
    rw [e] at q
    exact q
  have hIm : RI (500 + 2000 * K + 1600) ((((A.setB i0 5 (A.B i0 5 - min a (A.B i0 5))).setB i0 6 (A.B i0 6 + a)).setT (A.t - min a (A.B i0 5))).setB i0 3 z) i0 (a - min a (A.B i0 5)) := by
    obtain ⟨g1, g2, g3, g4⟩ := w2
    refine ⟨g1, g2, ⟨h1, h2, ?_⟩, g4⟩
    rw [show ((((A.setB i0 5 (A.B i0 5 - min a (A.B i0 5))).setB i0 6 (A.B i0 6 + a)).setT (A.t - min a (A.B i0 5))).setB i0 3 z).B i0 3 = z from up2_s _ _ _ _]
    exact hz
  obtain ⟨ow, st, hQ⟩ := r3.2.2.2.2.2
  obtain ⟨L', f1, f2⟩ := lRf (ow := ow) (st := st) (C := 500 + 2000 * K + 1600) (K := K + 1) (z := z) (by omega) hG (G.toNat + 1) FU (len (A.rows i0)).toNat (a - min a (A.B i0 5)) _ _ r3 hQ hWm hIm ⟨hm.2.1, hm.2.2⟩ (by show (((len (A.rows i0)).toNat : Nat) : Int) ≤ len (A.rows i0); omega) (fun j j0 j1 => by
    have j1 : j < len (A.rows i0) := j1
    show j < (((len (A.rows i0)).toNat : Nat) : Int) ↔ st (at' (A.rows i0) j) < ((G.toNat + 1 : Nat) : Int)
    have hmem := at_mem (l := A.rows i0) (k := j) j0 j1
    have hpw := hW.p (i := i0) h1 h2 hmem
    have := (hQ.1 _ hpw.1.1 hpw.1.2).2.2.2.1
    omega) (by omega) (by unfold FU; omega)
  refine ⟨L', ?_, ?_⟩
  · rw [← f1]
    have b5 := hL.B (i := i0) (c := 5) h1 h2 (by omega) (by omega)
    have a2 : upd L.2.2.2.1 (9 * i0 + 5).toNat (iI (A.B i0 5 - min a (A.B i0 5))) (9 * i0 + 6).toNat = iI (A.B i0 6) := (ud_n (by omega)).trans (hL.B (i := i0) (c := 6) h1 h2 (by omega) (by omega))
    have a3 := hL.g3
    have a4 : upd L.1 (3 : Int).toNat (iI (A.t - min a (A.B i0 5))) (4 : Int).toNat = iI G := (ud_n (by omega)).trans hL.g4
    have eG : ((G.toNat + 1 : Nat) : Int) - 1 = G := by omega
    obtain ⟨m1, m2, m3⟩ := hm
    rw [eG]
    clear w1 w2 w3 w4 r1 r2 r3 hWm hIm f1 f2 hW hL hQ
    by_cases c : a ≤ A.B i0 5
    · have em : min a (A.B i0 5) = a := by omega
      rw [em] at a2 a4 ⊢
      clear em
      simp (disch := omega) only [MoI, nmD, bdS, b2S, lit32, iA, iS, iM, iN, iLt, iLe, iE, zlT, zlF, zleT, zleF, zeT, zeF, RdI, WrI, DvI, jmaxI, jminI, jabsI, bI0, Zb0, Zb1, ZbI, ↓reduceIte, not_true_eq_false, not_false_eq_true, ite_not, and_true, true_and, and_false, false_and, and_self, fL_refunds, fL_refunds_j32, b5, a2, a3, a4]
    · have em : min a (A.B i0 5) = A.B i0 5 := by omega
      rw [em] at a2 a4 ⊢
      clear em
      simp (disch := omega) only [MoI, nmD, bdS, b2S, lit32, iA, iS, iM, iN, iLt, iLe, iE, zlT, zlF, zleT, zleF, zeT, zeF, RdI, WrI, DvI, jmaxI, jminI, jabsI, bI0, Zb0, Zb1, ZbI, ↓reduceIte, not_true_eq_false, not_false_eq_true, ite_not, and_true, true_and, and_false, false_and, and_self, fL_refunds, fL_refunds_j32, b5, a2, a3, a4]
  · have q := rf_setB i0 i0 6 (A.B i0 6 + a) (len (A.rows i0)).toNat (a - min a (A.B i0 5)) ((A.setB i0 5 (A.B i0 5 - min a (A.B i0 5))).setT (A.t - min a (A.B i0 5)))
    unfold rfA
    have q2 := congrArg Prod.fst q
    have q3 : (rf i0 (len (A.rows i0)).toNat (a - min a (A.B i0 5)) (((A.setB i0 5 (A.B i0 5 - min a (A.B i0 5))).setT (A.t - min a (A.B i0 5))).setB i0 6 (A.B i0 6 + a))).1 = (rf i0 (len (A.rows i0)).toNat (a - min a (A.B i0 5)) ((A.setB i0 5 (A.B i0 5 - min a (A.B i0 5))).setT (A.t - min a (A.B i0 5)))).1.setB i0 6 (A.B i0 6 + a) := q2
    rw [← q3]
    exact f2
end LRW
