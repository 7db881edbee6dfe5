/-! A merge's stamps: the loops. -/
def JS (N0 N : XLm) (A : Ab) (ow st pos : Int → Int) (i j G m : Int) : Prop := (N.1 = N0.1 ∧ N.2.2.1 = N0.2.2.1 ∧ N.2.2.2.1 = N0.2.2.2.1 ∧ N.2.2.2.2.1 = N0.2.2.2.2.1 ∧ N.2.2.2.2.2.2 = N0.2.2.2.2.2.2) ∧ (∀ x : Int, 0 ≤ x → x < 4 → N.2.1 x.toNat = N0.2.1 x.toNat) ∧ N.2.1 (4 : Int).toNat = iI (G + m) ∧ QJ N.2.2.2.2.2.1 N0.2.2.2.2.2.1 A ow st pos i j G m
def jnS (N : XLm) (p j s : Int) : XLm := (N.1, (upd N.2.1 (4 : Int).toNat (iI (s + 1)), N.2.2.1, N.2.2.2.1, N.2.2.2.2.1, upd (upd N.2.2.2.2.2.1 (4 * p + 2).toNat (iI j)) (4 * p + 3).toNat (iI s), N.2.2.2.2.2.2))
section LJ2
variable {A : Ab} {G K : Int} {ow st pos : Int → Int} {i j : Int} {N0 N : XLm}
theorem lJn1 {x14 n m y : Int} (hN : 0 ≤ A.nB ∧ A.nB ≤ 7) (hij : i < j ∨ j < i) (hi : 0 ≤ i ∧ i < A.nB) (hj : 0 ≤ j ∧ j < A.nB) (hn : 0 ≤ n ∧ n ≤ 60000) (hG : 0 ≤ G ∧ G ≤ 50000) (hm : 0 ≤ m ∧ m ≤ 16) (y0 : 0 ≤ y) (y1 : y < A.nB) (e1 : ow y = i) (e2 : st y = n) (e3 : pos y = m) (hinj : ∀ x : Int, 0 ≤ x → x < A.nB → ow x = i → pos x = m → x = y) (g1 : N0.2.1 (1 : Int).toNat = iI A.nB) (h : JS N0 N A ow st pos i j G m) (kk : XLm → Option (Int32 × XLm)) (fu : Nat) : fL_acts_l1512 (iI i) (iI j) (iI x14) (iI n) kk (fu + 1) N (iI y) = fL_acts_l1512 (iI i) (iI j) (iI x14) (iI n) kk fu (jnS N y j (G + m)) (iI (y + 1)) ∧ JS N0 (jnS N y j (G + m)) A ow st pos i j G (m + 1) := by
  obtain ⟨hc, hg, hg4, hQ⟩ := h
  refine ⟨?_, hc, fun x x0 x1 => ?_, ?_, fun x x0 x1 => ?_⟩
  · obtain ⟨hN1, hN2⟩ := hN
    obtain ⟨hi1, hi2⟩ := hi
    obtain ⟨hj1, hj2⟩ := hj
    obtain ⟨hn1, hn2⟩ := hn
    obtain ⟨hG1, hG2⟩ := hG
    have g1' : N.2.1 (1 : Int).toNat = iI A.nB := (hg 1 (by omega) (by omega)).trans g1
    obtain ⟨o0, o1, o2, o3⟩ := hQ y y0 y1
    rw [if_neg (fun q => by omega)] at o2 o3
    rw [e1] at o2
    rw [e2] at o3
    rw [fL_acts_l1512_s]
    unfold jnS
    clear hQ hg hc hinj
    simp (disch := omega) only [MoI, nmD, bdS, b2S, lit32, iA, iS, iM, iN, iLt, iLe, iE, zlT, zlF, zleT, zleF, zeT, zeF, RdI, WrI, DvI, jmaxI, jminI, jabsI, bI0, Zb0, Zb1, ZbI, ↓reduceIte, not_true_eq_false, not_false_eq_true, ite_not, and_true, true_and, and_false, false_and, and_self, g1', o2, o3, hg4, fL_acts_j1578]
  · show upd N.2.1 (4 : Int).toNat (iI (G + m + 1)) x.toNat = _
    rw [ud_n (by have : (4 : Int).toNat = 4 := rfl
                 omega)]
    exact hg x x0 x1
  · show upd N.2.1 (4 : Int).toNat (iI (G + m + 1)) (4 : Int).toNat = iI (G + (m + 1))
    rw [ud_s, Int.add_assoc]
  · obtain ⟨o0, o1, o2, o3⟩ := hQ x x0 x1
    show upd (upd N.2.2.2.2.2.1 (4 * y + 2).toNat (iI j)) (4 * y + 3).toNat (iI (G + m)) (4 * x).toNat = _ ∧ upd (upd N.2.2.2.2.2.1 (4 * y + 2).toNat (iI j)) (4 * y + 3).toNat (iI (G + m)) (4 * x + 1).toNat = _ ∧ upd (upd N.2.2.2.2.2.1 (4 * y + 2).toNat (iI j)) (4 * y + 3).toNat (iI (G + m)) (4 * x + 2).toNat = _ ∧ upd (upd N.2.2.2.2.2.1 (4 * y + 2).toNat (iI j)) (4 * y + 3).toNat (iI (G + m)) (4 * x + 3).toNat = _
    by_cases e : x = y
    · subst e
      rw [if_pos ⟨e1, by omega⟩, if_pos ⟨e1, by omega⟩, ud_n (by omega), ud_n (by omega), ud_n (by omega), ud_n (by omega), ud_n (by omega), ud_s, ud_s, e3]
      exact ⟨o0, o1, rfl, rfl⟩
    · have ec : (ow x = i ∧ pos x < m + 1) ↔ (ow x = i ∧ pos x < m) := ⟨fun q => ⟨q.1, by
        have : pos x ≠ m := fun z => e (hinj x x0 x1 q.1 z)
        omega⟩, fun q => ⟨q.1, by omega⟩⟩
      rw [if_c ec, if_c ec, ud_n (by omega), ud_n (by omega), ud_n (by omega), ud_n (by omega), ud_n (by omega), ud_n (by omega), ud_n (by omega), ud_n (by omega)]
      exact ⟨o0, o1, o2, o3⟩
theorem lJnI {x14 n m y : Int} (hN : 0 ≤ A.nB ∧ A.nB ≤ 7) (hij : i < j ∨ j < i) (hi : 0 ≤ i ∧ i < A.nB) (hj : 0 ≤ j ∧ j < A.nB) (hn : 0 ≤ n ∧ n ≤ 60000) (hG : 0 ≤ G ∧ G ≤ 50000) (hm : 0 ≤ m ∧ m ≤ 16) (hr : ∀ p : Int, 0 ≤ p → p < A.nB → (-1 ≤ ow p ∧ ow p < A.nB) ∧ (0 ≤ st p ∧ st p < G) ∧ (ow p = i → 0 ≤ pos p ∧ pos p ≤ 16)) (y0 : 0 ≤ y) (y1 : y < A.nB) (e1 : ow y = i) (e2 : st y = n) (e3 : pos y = m) (hinj : ∀ x : Int, 0 ≤ x → x < A.nB → ow x = i → pos x = m → x = y) (hun : ∀ x : Int, 0 ≤ x → x < A.nB → ow x = i → st x = n → x = y) (g1 : N0.2.1 (1 : Int).toNat = iI A.nB) (h : JS N0 N A ow st pos i j G m) (kk : XLm → Option (Int32 × XLm)) : ∀ (k fu : Nat) (p : Int), 0 ≤ p → p ≤ y → p + k = A.nB → k < fu → fL_acts_l1512 (iI i) (iI j) (iI x14) (iI n) kk fu N (iI p) = kk (jnS N y j (G + m)) := by
  intro k
  induction k with
  | zero =>
    intro fu p p0 p1 p2
    omega
  | succ k ih =>
    intro fu p p0 py p1 p2
    obtain ⟨fu, rfl⟩ : ∃ q, fu = q + 1 := ⟨fu - 1, by omega⟩
    by_cases c : p = y
    · subst c
      obtain ⟨z1, z2⟩ := lJn1 (x14 := x14) hN hij hi hj hn hG hm p0 y1 e1 e2 e3 hinj g1 h kk fu
      rw [z1]
      exact lJn0 (x11 := 0) (x13 := 0) hN hij hi hj hn hG hr kk ((z2.2.1 1 (by omega) (by omega)).trans g1) z2.2.2.2 k fu (p + 1) (by omega) (by omega) (by omega) (fun x x0 x1 x2 _ x4 => by
        have := hun x (by omega) x1 x2 x4
        omega)
    · have := ih fu (p + 1) (by omega) (by omega) (by omega) (by omega)
      rw [← this]
      have g1' : N.2.1 (1 : Int).toNat = iI A.nB := (h.2.1 1 (by omega) (by omega)).trans g1
      obtain ⟨o0, o1, o2, o3⟩ := h.2.2.2 p p0 (by omega)
      obtain ⟨h1, h2, h3⟩ := hr p p0 (by omega)
      have hp : ow p = i → st p ≠ n := fun z1 z2 => c (hun p p0 (by omega) z1 z2)
      obtain ⟨hN1, hN2⟩ := hN
      obtain ⟨hi1, hi2⟩ := hi
      obtain ⟨hj1, hj2⟩ := hj
      obtain ⟨hn1, hn2⟩ := hn
      obtain ⟨hG1, hG2⟩ := hG
      have hpn : p < A.nB := by omega
      rw [fL_acts_l1512_s]
      clear ih this h hr hinj hun
      by_cases c1 : ow p = i
      · by_cases c2 : pos p < m
        · rw [if_pos ⟨c1, c2⟩] at o2 o3
          clear hp
          simp (disch := omega) only [MoI, nmD, bdS, b2S, lit32, iA, iS, iM, iN, iLt, iLe, iE, zlT, zlF, zleT, zleF, zeT, zeF, RdI, WrI, DvI, jmaxI, jminI, jabsI, bI0, Zb0, Zb1, ZbI, ↓reduceIte, not_true_eq_false, not_false_eq_true, ite_not, and_true, true_and, and_false, false_and, and_self, g1', o2, fL_acts_j1578]
        · rw [if_neg (fun q => c2 q.2)] at o2 o3
          have hs : st p < n ∨ n < st p := by have := hp c1; omega
          clear hp
          simp (disch := omega) only [MoI, nmD, bdS, b2S, lit32, iA, iS, iM, iN, iLt, iLe, iE, zlT, zlF, zleT, zleF, zeT, zeF, RdI, WrI, DvI, jmaxI, jminI, jabsI, bI0, Zb0, Zb1, ZbI, ↓reduceIte, not_true_eq_false, not_false_eq_true, ite_not, and_true, true_and, and_false, false_and, and_self, g1', o2, o3, c1, fL_acts_j1578]
      · rw [if_neg (fun q => c1 q.1)] at o2 o3
        clear hp
        simp (disch := omega) only [MoI, nmD, bdS, b2S, lit32, iA, iS, iM, iN, iLt, iLe, iE, zlT, zlF, zleT, zleF, zeT, zeF, RdI, WrI, DvI, jmaxI, jminI, jabsI, bI0, Zb0, Zb1, ZbI, ↓reduceIte, not_true_eq_false, not_false_eq_true, ite_not, and_true, true_and, and_false, false_and, and_self, g1', o2, fL_acts_j1578]
theorem lJn (hW : WF K A) (hN : 0 ≤ A.nB ∧ A.nB ≤ 7) (hij : i < j ∨ j < i) (hi : 0 ≤ i ∧ i < A.nB) (hj : 0 ≤ j ∧ j < A.nB) (hG : 0 ≤ G ∧ G ≤ 50000) {f0 : Nat → Int32} (hQ : RQ f0 A G ow st) (hpos : ∀ p : Int, p ∈ A.rows i → 0 ≤ pos p ∧ pos p < len (A.rows i) ∧ at' (A.rows i) (pos p) = p) (g1 : N0.2.1 (1 : Int).toNat = iI A.nB) (kk : XLm → Option (Int32 × XLm)) : ∀ (k fu : Nat) (n m : Int) (N : XLm), 0 ≤ n → n + k = G → k < fu → 0 ≤ m → m ≤ len (A.rows i) → (∀ a : Int, 0 ≤ a → a < len (A.rows i) → (a < m ↔ st (at' (A.rows i) a) < n)) → JS N0 N A ow st pos i j G m → ∃ N' : XLm, fL_acts_l1502 (iI i) (iI j) (iI G) kk fu N (iI n) = kk N' ∧ JS N0 N' A ow st pos i j G (len (A.rows i)) := by
  have hln := hW.ln hi.1 hi.2
  have hmem : ∀ x : Int, 0 ≤ x → x < A.nB → ow x = i → x ∈ A.rows i := fun x x0 x1 x2 => by
    have := ((hQ.1 x x0 x1).2.2.2.2 (by omega)).2.2
    rw [x2] at this
    exact this
  have hr : ∀ p : Int, 0 ≤ p → p < A.nB → (-1 ≤ ow p ∧ ow p < A.nB) ∧ (0 ≤ st p ∧ st p < G) ∧ (ow p = i → 0 ≤ pos p ∧ pos p ≤ 16) := fun p p0 p1 => by
    obtain ⟨-, -, o4, o5, -⟩ := hQ.1 p p0 p1
    refine ⟨o4, o5, fun z => ?_⟩
    have := hpos p (hmem p p0 p1 z)
    omega
  intro k
  induction k with
  | zero =>
    intro fu n m N n0 n1 n2 m0 m1 hst h
    obtain ⟨fu, rfl⟩ : ∃ q, fu = q + 1 := ⟨fu - 1, by omega⟩
    have em : m = len (A.rows i) := by
      by_cases e : m = len (A.rows i)
      · exact e
      · exfalso
        have hm := at_mem (l := A.rows i) (k := m) m0 (by omega)
        have hpw := hW.p hi.1 hi.2 hm
        have h1 := (hr _ hpw.1.1 hpw.1.2).2.1
        have := (hst m m0 (by omega)).mpr (by omega)
        omega
    rw [em] at h
    refine ⟨N, ?_, h⟩
    clear hst h hr hmem hpos hQ hW
    rw [fL_acts_l1502_s]
    simp (disch := omega) only [MoI, nmD, bdS, b2S, lit32, iA, iS, iM, iN, iLt, iLe, iE, zlT, zlF, zleT, zleF, zeT, zeF, RdI, WrI, DvI, jmaxI, jminI, jabsI, bI0, Zb0, Zb1, ZbI, ↓reduceIte, not_true_eq_false, not_false_eq_true, ite_not, and_true, true_and, and_false, false_and, and_self]
  | succ k ih =>
    intro fu n m N n0 n1 n2 m0 m1 hst h
    obtain ⟨fu, rfl⟩ : ∃ q, fu = q + 1 := ⟨fu - 1, by omega⟩
    have e0 : fL_acts_l1502 (iI i) (iI j) (iI G) kk (fu + 1) N (iI n) = fL_acts_l1512 (iI i) (iI j) (iI G) (iI n) (fun M => fL_acts_l1502 (iI i) (iI j) (iI G) kk fu M (iI (n + 1))) FU N (iI 0) := by
      rw [fL_acts_l1502_s]
      clear ih hst h hr hmem hpos hQ hW
      simp (disch := omega) only [MoI, nmD, bdS, b2S, lit32, iA, iS, iM, iN, iLt, iLe, iE, zlT, zlF, zleT, zleF, zeT, zeF, RdI, WrI, DvI, jmaxI, jminI, jabsI, bI0, Zb0, Zb1, ZbI, ↓reduceIte, not_true_eq_false, not_false_eq_true, ite_not, and_true, true_and, and_false, false_and, and_self]
    rw [e0]
    by_cases c : ∃ y : Int, 0 ≤ y ∧ y < len (A.rows i) ∧ st (at' (A.rows i) y) = n
    · obtain ⟨y, y0, y1, y2⟩ := c
      have ym : y = m := by
        have h1 := hst y y0 y1
        by_cases e : y = m
        · exact e
        · exfalso
          have h2 := (hst m m0 (by omega))
          have h3 := hQ.2.2 i m y hi.1 hi.2 m0 (by omega) y1
          omega
      subst ym
      have hm := at_mem (l := A.rows i) (k := y) y0 y1
      have hpw := hW.p hi.1 hi.2 hm
      have ho := hQ.2.1 i _ hi.1 hi.2 hm
      have hp := hpos _ hm
      have epos : pos (at' (A.rows i) y) = y := at_inj (hW.2.2.2.2.2.1 i hi.1 hi.2).1 hp.1 hp.2.1 y0 y1 hp.2.2
      have hinj : ∀ x : Int, 0 ≤ x → x < A.nB → ow x = i → pos x = y → x = at' (A.rows i) y := fun x x0 x1 x2 x3 => by
        have := (hpos x (hmem x x0 x1 x2)).2.2
        rw [x3] at this
        exact this.symm
      have hun : ∀ x : Int, 0 ≤ x → x < A.nB → ow x = i → st x = n → x = at' (A.rows i) y := fun x x0 x1 x2 x3 => by
        obtain ⟨k, k0, k1, k2⟩ := at_of (hmem x x0 x1 x2)
        rcases Int.lt_trichotomy k y with q | q | q
        · have := hQ.2.2 i k y hi.1 hi.2 k0 q y1
          rw [k2] at this
          omega
        · rw [← k2, q]
        · have := hQ.2.2 i y k hi.1 hi.2 y0 q k1
          rw [k2] at this
          omega
      rw [lJnI hN hij hi hj ⟨n0, by omega⟩ hG ⟨y0, by omega⟩ hr hpw.1.1 hpw.1.2 ho y2 epos hinj hun g1 h _ A.nB.toNat FU 0 (by omega) hpw.1.1 (by omega) (by unfold FU; omega)]
      obtain ⟨-, h'⟩ := lJn1 (x14 := G) hN hij hi hj ⟨n0, by omega⟩ hG ⟨y0, by omega⟩ hpw.1.1 hpw.1.2 ho y2 epos hinj g1 h kk fu
      exact ih fu (n + 1) (y + 1) _ (by omega) (by omega) (by omega) (by omega) (by omega) (fun a a0 a1 => by
        have h1 := hst a a0 a1
        rcases Int.lt_trichotomy a y with q | q | q
        · have := hQ.2.2 i a y hi.1 hi.2 a0 q y1
          omega
        · rw [q, y2]; omega
        · have := hQ.2.2 i y a hi.1 hi.2 y0 q a1
          omega) h'
    · rw [lJn0 (x11 := 0) (x13 := 0) hN hij hi hj ⟨n0, by omega⟩ hG hr _ ((h.2.1 1 (by omega) (by omega)).trans g1) h.2.2.2 A.nB.toNat FU 0 (by omega) (by omega) (by unfold FU; omega) (fun x x0 x1 x2 _ x4 => by
        obtain ⟨k, k0, k1, k2⟩ := at_of (hmem x x0 x1 x2)
        exact c ⟨k, k0, k1, by rw [k2]; exact x4⟩)]
      exact ih fu (n + 1) m N (by omega) (by omega) (by omega) m0 m1 (fun a a0 a1 => by
        have h1 := hst a a0 a1
        have h2 : st (at' (A.rows i) a) ≠ n := fun e => c ⟨a, a0, a1, e⟩
        omega) h
/-- the rows behind a merge -/
theorem repL_jn (hW : WF K A) (hij : i < j ∨ j < i) (hi : 0 ≤ i ∧ i < A.nB) (hj : 0 ≤ j ∧ j < A.nB) (hG : 0 ≤ G) (h0 : RepL N0.2 (mkA A.R (up2 (jB A i j) i 3 3) A.V A.S A.rows A.F A.U A.nR A.nB A.nV A.t) G) (hQ : RQ N0.2.2.2.2.2.1 A G ow st) (hpos : ∀ p : Int, p ∈ A.rows i → 0 ≤ pos p ∧ pos p < len (A.rows i) ∧ at' (A.rows i) (pos p) = p) (h : JS N0 N A ow st pos i j G (len (A.rows i))) : RepL N.2 (jn A i j) (G + len (A.rows i)) := by
  obtain ⟨⟨a0, a1, a2, a3, a4⟩, hS, hR, hB, hV, -⟩ := h0
  obtain ⟨⟨c1, c2, c3, c4, c5⟩, hg, hg4, hJ⟩ := h
  have hln := hW.ln hi.1 hi.2
  have hn := hW.n
  have hmem : ∀ x : Int, 0 ≤ x → x < A.nB → ow x = i → x ∈ A.rows i := fun x x0 x1 x2 => by
    have := ((hQ.1 x x0 x1).2.2.2.2 (by omega)).2.2
    rw [x2] at this
    exact this
  refine ⟨⟨(hg 0 (by omega) (by omega)).trans a0, (hg 1 (by omega) (by omega)).trans a1, (hg 2 (by omega) (by omega)).trans a2, (hg 3 (by omega) (by omega)).trans a3, hg4⟩, by rw [c2]; exact hS, by rw [c3]; exact hR, by rw [c4]; exact hB, by rw [c5]; exact hV, fun x => if ow x = i then j else ow x, fun x => if ow x = i then G + pos x else st x, fun x x0 x1 => ?_, fun y x y0 y1 hx => ?_, fun y a b y0 y1 a0 ab b1 => ?_⟩
  · have x1 : x < A.nB := x1
    show N.2.2.2.2.2.1 (4 * x + 2).toNat = iI (if ow x = i then j else ow x) ∧ N.2.2.2.2.2.1 (4 * x + 3).toNat = iI (if ow x = i then G + pos x else st x) ∧ (-1 ≤ (if ow x = i then j else ow x) ∧ (if ow x = i then j else ow x) < A.nB) ∧ (0 ≤ (if ow x = i then G + pos x else st x) ∧ (if ow x = i then G + pos x else st x) < G + len (A.rows i)) ∧ (0 ≤ (if ow x = i then j else ow x) → _ = iI (A.F x) ∧ _ = iI (A.U x) ∧ x ∈ jL A i j (if ow x = i then j else ow x))
    obtain ⟨o0, o1, o2, o3⟩ := hJ x x0 x1
    obtain ⟨q2, q3, q4, q5, q6⟩ := hQ.1 x x0 x1
    by_cases c : ow x = i
    · have hp := hpos x (hmem x x0 x1 c)
      rw [if_pos ⟨c, hp.2.1⟩] at o2 o3
      rw [if_pos c, if_pos c]
      obtain ⟨q7, q8, q9⟩ := q6 (by omega)
      refine ⟨o2, o3, by omega, by omega, fun _ => ⟨o0.trans q7, o1.trans q8, ?_⟩⟩
      rw [jL_j hij]
      exact List.mem_append_right _ (hmem x x0 x1 c)
    · rw [if_neg (fun q => c q.1)] at o2 o3
      rw [if_neg c, if_neg c]
      refine ⟨o2, o3, by omega, by omega, fun z => ?_⟩
      obtain ⟨q7, q8, q9⟩ := q6 z
      refine ⟨o0.trans q7, o1.trans q8, ?_⟩
      by_cases e : ow x = j
      · rw [e, jL_j hij]
        rw [e] at q9
        exact List.mem_append_left _ q9
      · rw [jL_o (by omega) (by omega)]
        exact q9
  · have y1 : y < A.nB := y1
    have hx : x ∈ jL A i j y := hx
    show (if ow x = i then j else ow x) = y
    by_cases e : y = i
    · rw [e, jL_i] at hx
      exact absurd hx List.not_mem_nil
    · by_cases e2 : y = j
      · rw [e2, jL_j hij] at hx
        rcases List.mem_append.mp hx with q | q
        · rw [hQ.2.1 j x hj.1 hj.2 q, if_neg (by omega), e2]
        · rw [hQ.2.1 i x hi.1 hi.2 q, if_pos rfl, e2]
      · rw [jL_o (by omega) (by omega)] at hx
        rw [hQ.2.1 y x y0 y1 hx, if_neg e]
  · have y1 : y < A.nB := y1
    have b1 : b < len (jL A i j y) := b1
    show (if ow (at' (jL A i j y) a) = i then G + pos (at' (jL A i j y) a) else st (at' (jL A i j y) a)) < (if ow (at' (jL A i j y) b) = i then G + pos (at' (jL A i j y) b) else st (at' (jL A i j y) b))
    by_cases e : y = i
    · rw [e, jL_i, len_nil] at b1
      omega
    · by_cases e2 : y = j
      · rw [e2, jL_j hij] at b1 ⊢
        rw [len_app] at b1
        have inj : ∀ a : Int, 0 ≤ a → a < len (A.rows j) → ow (at' (A.rows j ++ A.rows i) a) = j ∧ at' (A.rows j ++ A.rows i) a = at' (A.rows j) a ∧ st (at' (A.rows j) a) < G := fun a a0 a1 => by
          have hm := at_mem (l := A.rows j) (k := a) a0 a1
          have hpw := hW.p hj.1 hj.2 hm
          rw [at_app1 a0 a1]
          exact ⟨hQ.2.1 j _ hj.1 hj.2 hm, rfl, (hQ.1 _ hpw.1.1 hpw.1.2).2.2.2.1.2⟩
        have ini : ∀ a : Int, len (A.rows j) ≤ a → a < len (A.rows j) + len (A.rows i) → ow (at' (A.rows j ++ A.rows i) a) = i ∧ pos (at' (A.rows j ++ A.rows i) a) = a - len (A.rows j) := fun a a0 a1 => by
          have h1 : at' (A.rows j ++ A.rows i) a = at' (A.rows i) (a - len (A.rows j)) := by
            have := at_app2 (l := A.rows j) (m := A.rows i) (k := a - len (A.rows j)) (by omega)
            rw [show a - len (A.rows j) + len (A.rows j) = a by omega] at this
            exact this
          have hm := at_mem (l := A.rows i) (k := a - len (A.rows j)) (by omega) (by omega)
          have hp := hpos _ hm
          rw [h1]
          exact ⟨hQ.2.1 i _ hi.1 hi.2 hm, at_inj (hW.2.2.2.2.2.1 i hi.1 hi.2).1 hp.1 hp.2.1 (by omega) (by omega) hp.2.2⟩
        by_cases ca : a < len (A.rows j)
        · obtain ⟨u1, u2, u3⟩ := inj a a0 ca
          rw [u1, if_neg (by omega), u2]
          by_cases cb : b < len (A.rows j)
          · obtain ⟨v1, v2, v3⟩ := inj b (by omega) cb
            rw [v1, if_neg (by omega), v2]
            exact hQ.2.2 j a b hj.1 hj.2 a0 ab cb
          · obtain ⟨v1, v2⟩ := ini b (by omega) (by omega)
            rw [v1, if_pos rfl, v2]
            omega
        · obtain ⟨u1, u2⟩ := ini a (by omega) (by omega)
          obtain ⟨v1, v2⟩ := ini b (by omega) (by omega)
          rw [u1, if_pos rfl, u2, v1, if_pos rfl, v2]
          omega
      · rw [jL_o (by omega) (by omega)] at b1 ⊢
        have h1 := hQ.2.1 y _ y0 y1 (at_mem (l := A.rows y) (k := a) a0 (by omega))
        have h2 := hQ.2.1 y _ y0 y1 (at_mem (l := A.rows y) (k := b) (by omega) b1)
        rw [h1, h2, if_neg e, if_neg e]
        exact hQ.2.2 y a b y0 y1 a0 ab b1
end LJ2
