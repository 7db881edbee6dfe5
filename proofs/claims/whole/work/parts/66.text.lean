/-! The text: runs of characters, tokens, on both sides. -/
def RN (tx : Int → Int) (L : Int) (q : Int → Prop) (e c : Int) : Prop := e ≤ c ∧ c ≤ L ∧ (∀ j : Int, e ≤ j → j < c → q (tx j)) ∧ (c < L → ¬ q (tx c))
section TX
variable {tx : Int → Int} {L : Int} {q : Int → Prop} {e c d : Int}
theorem RN.nil (h : e ≤ L) (h2 : e < L → ¬ q (tx e)) : RN tx L q e e := ⟨Int.le_refl e, h, fun j j0 j1 => by omega, h2⟩
theorem RN.cons (h : e < L) (hq : q (tx e)) (h2 : RN tx L q (e + 1) c) : RN tx L q e c := by
  obtain ⟨a1, a2, a3, a4⟩ := h2
  refine ⟨by omega, a2, fun j j0 j1 => ?_, a4⟩
  by_cases z : j = e
  · rw [z]; exact hq
  · exact a3 j (by omega) j1
theorem RN.tail (hq : e < c) (h2 : RN tx L q e c) : RN tx L q (e + 1) c := by
  obtain ⟨a1, a2, a3, a4⟩ := h2
  exact ⟨by omega, a2, fun j j0 j1 => a3 j (by omega) j1, a4⟩
theorem RN.one (h1 : RN tx L q e c) (h2 : RN tx L q e d) : c = d := by
  obtain ⟨a1, a2, a3, a4⟩ := h1
  obtain ⟨b1, b2, b3, b4⟩ := h2
  rcases Int.lt_trichotomy c d with h | h | h
  · exact absurd (b3 c a1 h) (a4 (by omega))
  · exact h
  · exact absurd (a3 d b1 h) (b4 (by omega))
theorem RN.pos (h1 : RN tx L q e c) (h : e < L) (hq : q (tx e)) : e + 1 ≤ c := by
  obtain ⟨a1, a2, a3, a4⟩ := h1
  by_cases z : c = e
  · rw [z] at a4
    exact absurd hq (a4 h)
  · omega
end TX
def kd (x : Int) : Int := if 97 ≤ x ∧ x ≤ 122 then 1 else if 48 ≤ x ∧ x ≤ 57 then 2 else 3
def sp (x : Int) : Prop := x = 32
def lt' (x : Int) : Prop := 97 ≤ x ∧ x ≤ 122
def dg (x : Int) : Prop := 48 ≤ x ∧ x ≤ 57
/-- a token from b to c of kind k -/
def Tok (tx : Int → Int) (L b c k : Int) : Prop := (b = L ∧ k = 0 ∧ c = b) ∨ (b < L ∧ k = kd (tx b) ∧ ((lt' (tx b) ∧ k = 1 ∧ RN tx L lt' b c) ∨ (dg (tx b) ∧ k = 2 ∧ RN tx L dg b c) ∨ (¬ lt' (tx b) ∧ ¬ dg (tx b) ∧ k = 3 ∧ c = b + 1)))
def Tx (tx : Int → Int) (L : Int) (t : Nat → Int32) : Prop := ∀ j : Int, 0 ≤ j → j < L → (1 ≤ tx j ∧ tx j ≤ 255) ∧ t j.toNat = iI (tx j)
section TP
variable {tx : Int → Int} {L : Int} {t u : Nat → Int32}
theorem xSign (hT : Tx tx L t) (hL : L ≤ 140) {P' : (Nat → Int32) × Int32 × Int32 × Int32 × Int32} {e : Int} (h0 : 0 ≤ e) (h1 : e < L) : fX3_signAt (t, P') (iI e) = some (iI (tx e)) := by
  have h2 := (hT e h0 h1).2
  clear hT
  simp (disch := omega) only [nmD, bdS, b2S, lit32, iA, iS, iM, iN, iLt, iLe, iE, zlT, zlF, zleT, zleF, zeT, zeF, RdI, WrI, DvI, jmaxI, jminI, jabsI, bI0, Zb0, Zb1, ZbI, ↓reduceIte, not_true_eq_false, not_false_eq_true, ite_not, and_true, true_and, and_false, false_and, and_self, fX3_signAt, fX3_signAt_j23, h2]
theorem xKind {P : Pg} {x : Int} (h0 : 1 ≤ x) (h1 : x ≤ 255) : fX3_kindOf P (iI x) = some (iI (kd x)) := by
  unfold kd
  by_cases c : 97 ≤ x ∧ x ≤ 122
  · rw [if_pos c]
    obtain ⟨c1, c2⟩ := c
    simp (disch := omega) only [nmD, bdS, b2S, lit32, iA, iS, iM, iN, iLt, iLe, iE, zlT, zlF, zleT, zleF, zeT, zeF, RdI, WrI, DvI, jmaxI, jminI, jabsI, bI0, Zb0, Zb1, ZbI, ↓reduceIte, not_true_eq_false, not_false_eq_true, ite_not, and_true, true_and, and_false, false_and, and_self, fX3_kindOf, xIn]
  · rw [if_neg c]
    by_cases d : 48 ≤ x ∧ x ≤ 57
    · rw [if_pos d]
      obtain ⟨d1, d2⟩ := d
      simp (disch := omega) only [nmD, bdS, b2S, lit32, iA, iS, iM, iN, iLt, iLe, iE, zlT, zlF, zleT, zleF, zeT, zeF, RdI, WrI, DvI, jmaxI, jminI, jabsI, bI0, Zb0, Zb1, ZbI, ↓reduceIte, not_true_eq_false, not_false_eq_true, ite_not, and_true, true_and, and_false, false_and, and_self, fX3_kindOf, fX3_kindOf_j29, xIn, c]
    · rw [if_neg d]
      simp (disch := omega) only [nmD, bdS, b2S, lit32, iA, iS, iM, iN, iLt, iLe, iE, zlT, zlF, zleT, zleF, zeT, zeF, RdI, WrI, DvI, jmaxI, jminI, jabsI, bI0, Zb0, Zb1, ZbI, ↓reduceIte, not_true_eq_false, not_false_eq_true, ite_not, and_true, true_and, and_false, false_and, and_self, fX3_kindOf, fX3_kindOf_j29, xIn, c, d]
theorem xTok8 (hT : Tx tx L t) (hL : L ≤ 140) (kk : Pg → Option Pg) (k0 en : Int32) : ∀ (k fu : Nat) (e : Int), 0 ≤ e → e + k = L → k < fu → ∃ b : Int, fX3_readToken_l8 kk fu (t, u, iI L, k0, iI e, en) = kk (t, u, iI L, k0, iI b, en) ∧ RN tx L sp e b := by
  intro k
  induction k with
  | zero =>
    intro fu e h0 h1 h2
    obtain ⟨fu, rfl⟩ : ∃ q, fu = q + 1 := ⟨fu - 1, by omega⟩
    refine ⟨e, ?_, RN.nil (by omega) (fun z => by omega)⟩
    clear hT
    rw [fX3_readToken_l8_s]
    simp (disch := omega) only [nmD, bdS, b2S, lit32, iA, iS, iM, iN, iLt, iLe, iE, zlT, zlF, zleT, zleF, zeT, zeF, RdI, WrI, DvI, jmaxI, jminI, jabsI, bI0, Zb0, Zb1, ZbI, ↓reduceIte, not_true_eq_false, not_false_eq_true, ite_not, and_true, true_and, and_false, false_and, and_self]
  | succ k ih =>
    intro fu e h0 h1 h2
    obtain ⟨fu, rfl⟩ : ∃ q, fu = q + 1 := ⟨fu - 1, by omega⟩
    have hb := (hT e h0 (by omega)).1
    have hs := fun P' => xSign hT hL (P' := P') h0 (show e < L by omega)
    by_cases c : tx e = 32
    · obtain ⟨b, f1, f2⟩ := ih fu (e + 1) (by omega) (by omega) (by omega)
      refine ⟨b, ?_, RN.cons (by omega) c f2⟩
      rw [fX3_readToken_l8_s, ← f1]
      clear ih f1 f2 hT
      simp (disch := omega) only [nmD, bdS, b2S, lit32, iA, iS, iM, iN, iLt, iLe, iE, zlT, zlF, zleT, zleF, zeT, zeF, RdI, WrI, DvI, jmaxI, jminI, jabsI, bI0, Zb0, Zb1, ZbI, ↓reduceIte, not_true_eq_false, not_false_eq_true, ite_not, and_true, true_and, and_false, false_and, and_self, hs, c]
    · refine ⟨e, ?_, RN.nil (by omega) (fun _ => c)⟩
      rw [fX3_readToken_l8_s]
      clear ih hT
      simp (disch := omega) only [nmD, bdS, b2S, lit32, iA, iS, iM, iN, iLt, iLe, iE, zlT, zlF, zleT, zleF, zeT, zeF, RdI, WrI, DvI, jmaxI, jminI, jabsI, bI0, Zb0, Zb1, ZbI, ↓reduceIte, not_true_eq_false, not_false_eq_true, ite_not, and_true, true_and, and_false, false_and, and_self, hs]
theorem kd_lt {x : Int} : kd x = 1 ↔ lt' x := by
  unfold kd lt'
  split
  · rename_i h; exact ⟨fun _ => h, fun _ => rfl⟩
  · rename_i h
    split
    · exact ⟨fun z => absurd z (by omega), fun z => absurd z h⟩
    · exact ⟨fun z => absurd z (by omega), fun z => absurd z h⟩
theorem kd_dg {x : Int} : kd x = 2 ↔ dg x := by
  unfold kd dg
  split
  · rename_i h; exact ⟨fun z => absurd z (by omega), fun z => by omega⟩
  · split
    · rename_i h; exact ⟨fun _ => h, fun _ => rfl⟩
    · rename_i h; exact ⟨fun z => absurd z (by omega), fun z => absurd z h⟩
theorem kd_b (x : Int) : 1 ≤ kd x ∧ kd x ≤ 3 := by
  unfold kd
  split
  · omega
  · split <;> omega
theorem xTok95 (hT : Tx tx L t) (hL : L ≤ 140) {kk : Pg → Option Pg} {k : Int} (hk : k = 1 ∨ k = 2) (st : Int32) : ∀ (m fu : Nat) (e : Int), 0 ≤ e → e + m = L → m < fu → ∃ c : Int, fX3_readToken_l95 kk fu (t, u, iI L, iI k, st, iI e) = kk (t, u, iI L, iI k, st, iI c) ∧ RN tx L (fun x => kd x = k) e c := by
  intro m
  induction m with
  | zero =>
    intro fu e h0 h1 h2
    obtain ⟨fu, rfl⟩ : ∃ q, fu = q + 1 := ⟨fu - 1, by omega⟩
    refine ⟨e, ?_, RN.nil (by omega) (fun z => by omega)⟩
    clear hT
    rw [fX3_readToken_l95_s]
    simp (disch := omega) only [nmD, bdS, b2S, lit32, iA, iS, iM, iN, iLt, iLe, iE, zlT, zlF, zleT, zleF, zeT, zeF, RdI, WrI, DvI, jmaxI, jminI, jabsI, bI0, Zb0, Zb1, ZbI, ↓reduceIte, not_true_eq_false, not_false_eq_true, ite_not, and_true, true_and, and_false, false_and, and_self]
  | succ m ih =>
    intro fu e h0 h1 h2
    obtain ⟨fu, rfl⟩ : ∃ q, fu = q + 1 := ⟨fu - 1, by omega⟩
    have hb := (hT e h0 (by omega)).1
    have hs := fun P' => xSign hT hL (P' := P') h0 (show e < L by omega)
    have hkk := fun P => xKind (P := P) hb.1 hb.2
    have hkb := kd_b (tx e)
    by_cases c : kd (tx e) = k
    · obtain ⟨b, f1, f2⟩ := ih fu (e + 1) (by omega) (by omega) (by omega)
      refine ⟨b, ?_, RN.cons (by omega) c f2⟩
      rw [fX3_readToken_l95_s, ← f1]
      clear ih f1 f2 hT
      simp (disch := omega) only [nmD, bdS, b2S, lit32, iA, iS, iM, iN, iLt, iLe, iE, zlT, zlF, zleT, zleF, zeT, zeF, RdI, WrI, DvI, jmaxI, jminI, jabsI, bI0, Zb0, Zb1, ZbI, ↓reduceIte, not_true_eq_false, not_false_eq_true, ite_not, and_true, true_and, and_false, false_and, and_self, hs, hkk, c]
    · refine ⟨e, ?_, RN.nil (by omega) (fun _ => c)⟩
      rw [fX3_readToken_l95_s]
      clear ih hT
      simp (disch := omega) only [nmD, bdS, b2S, lit32, iA, iS, iM, iN, iLt, iLe, iE, zlT, zlF, zleT, zleF, zeT, zeF, RdI, WrI, DvI, jmaxI, jminI, jabsI, bI0, Zb0, Zb1, ZbI, ↓reduceIte, not_true_eq_false, not_false_eq_true, ite_not, and_true, true_and, and_false, false_and, and_self, hs, hkk]
theorem RN.congq {q q' : Int → Prop} {e c : Int} (h : RN tx L q e c) (hq : ∀ x, q x ↔ q' x) : RN tx L q' e c := ⟨h.1, h.2.1, fun j j0 j1 => (hq _).mp (h.2.2.1 j j0 j1), fun z w => h.2.2.2 z ((hq _).mpr w)⟩
theorem xTok (hT : Tx tx L t) (hL : 0 ≤ L ∧ L ≤ 140) {e : Int} (h0 : 0 ≤ e) (h1 : e ≤ L) (k0 st : Int32) : ∃ b c k : Int, fX3_readToken (t, u, iI L, k0, st, iI e) = some (t, u, iI L, iI k, iI b, iI c) ∧ RN tx L sp e b ∧ Tok tx L b c k ∧ b ≤ c ∧ c ≤ L := by
  obtain ⟨hL0, hL1⟩ := hL
  obtain ⟨b, f1, f2⟩ := xTok8 (u := u) hT hL1 (fun M8 => nm (M8.2.2.2.2.1) fun v9 => nm ((M8.1, M8.2.1, M8.2.2.1, M8.2.2.2.1, M8.2.2.2.2.1, v9)) fun M10 => nm ((M10.1, M10.2.1, M10.2.2.1, 0, M10.2.2.2.2)) fun M11 => if (M11.2.2.1) ≤ (M11.2.2.2.2.1) then (fX3_readToken_j146 M11) else ((fX3_signAt M11 (M11.2.2.2.2.1)).bind fun r13 => (fX3_kindOf M11 r13).bind fun r14 => nm ((M11.1, M11.2.1, M11.2.2.1, r14, M11.2.2.2.2)) fun M15 => nm ((M15.2.2.2.2.1) + 1) fun v16 => nm ((M15.1, M15.2.1, M15.2.2.1, M15.2.2.2.1, M15.2.2.2.2.1, v16)) fun M17 => fX3_readToken_l95 (fun M25 => fX3_readToken_j146 M25) FU M17)) k0 (iI e) (L - e).toNat FU e h0 (by omega) (by unfold FU; omega)
  have fb := f2.1
  have fL := f2.2.1
  unfold fX3_readToken
  simp only [nmD] at f1 ⊢
  rw [f1]
  clear f1
  by_cases c : b = L
  · refine ⟨b, b, 0, ?_, f2, Or.inl ⟨c, rfl, rfl⟩, by omega, by omega⟩
    clear f2 hT
    simp (disch := omega) only [nmD, bdS, b2S, lit32, iA, iS, iM, iN, iLt, iLe, iE, zlT, zlF, zleT, zleF, zeT, zeF, RdI, WrI, DvI, jmaxI, jminI, jabsI, bI0, Zb0, Zb1, ZbI, ↓reduceIte, not_true_eq_false, not_false_eq_true, ite_not, and_true, true_and, and_false, false_and, and_self, fX3_readToken_j146]
  · have hb := (hT b (by omega) (by omega)).1
    have hs := fun P' => xSign hT hL1 (P' := P') (show 0 ≤ b by omega) (show b < L by omega)
    have hkk := fun P => xKind (P := P) hb.1 hb.2
    have hkb := kd_b (tx b)
    by_cases c3 : kd (tx b) = 3
    · refine ⟨b, b + 1, 3, ?_, f2, Or.inr ⟨by omega, c3.symm, Or.inr (Or.inr ⟨fun z => ?_, fun z => ?_, rfl, rfl⟩)⟩, by omega, by omega⟩
      · clear f2 hT
        have e3 : fX3_readToken_l95 (fun M25 => fX3_readToken_j146 M25) FU (t, u, iI L, iI 3, iI b, iI (b + 1)) = some (t, u, iI L, iI 3, iI b, iI (b + 1)) := by
          obtain ⟨fu, hfu⟩ : ∃ q, FU = q + 1 := ⟨FU - 1, by unfold FU; omega⟩
          rw [hfu, fX3_readToken_l95_s]
          clear hs hkk
          by_cases z : L ≤ b + 1
          · simp (disch := omega) only [nmD, bdS, b2S, lit32, iA, iS, iM, iN, iLt, iLe, iE, zlT, zlF, zleT, zleF, zeT, zeF, RdI, WrI, DvI, jmaxI, jminI, jabsI, bI0, Zb0, Zb1, ZbI, ↓reduceIte, not_true_eq_false, not_false_eq_true, ite_not, and_true, true_and, and_false, false_and, and_self, fX3_readToken_j146]
          · simp (disch := omega) only [nmD, bdS, b2S, lit32, iA, iS, iM, iN, iLt, iLe, iE, zlT, zlF, zleT, zleF, zeT, zeF, RdI, WrI, DvI, jmaxI, jminI, jabsI, bI0, Zb0, Zb1, ZbI, ↓reduceIte, not_true_eq_false, not_false_eq_true, ite_not, and_true, true_and, and_false, false_and, and_self, fX3_readToken_j146]
        simp (disch := omega) only [nmD, bdS, b2S, lit32, iA, iS, iM, iN, iLt, iLe, iE, zlT, zlF, zleT, zleF, zeT, zeF, RdI, WrI, DvI, jmaxI, jminI, jabsI, bI0, Zb0, Zb1, ZbI, ↓reduceIte, not_true_eq_false, not_false_eq_true, ite_not, and_true, true_and, and_false, false_and, and_self, hs, hkk, c3, e3]
      · have := kd_lt.mpr z; omega
      · have := kd_dg.mpr z; omega
    · obtain ⟨d, g1, g2⟩ := xTok95 (u := u) (kk := fun M25 => fX3_readToken_j146 M25) hT hL1 (k := kd (tx b)) (by omega) (iI b) (L - (b + 1)).toNat FU (b + 1) (by omega) (by omega) (by unfold FU; omega)
      have g1 : fX3_readToken_l95 (fun M25 => some M25) FU (t, u, iI L, iI (kd (tx b)), iI b, iI (b + 1)) = some (t, u, iI L, iI (kd (tx b)), iI b, iI d) := g1
      have g3 := RN.cons (show b < L by omega) (rfl : kd (tx b) = kd (tx b)) g2
      have gd := g2.1
      have gL := g2.2.1
      refine ⟨b, d, kd (tx b), ?_, f2, Or.inr ⟨by omega, rfl, ?_⟩, by omega, by omega⟩
      · clear f2 hT g2 g3
        simp (disch := omega) only [nmD, bdS, b2S, lit32, iA, iS, iM, iN, iLt, iLe, iE, zlT, zlF, zleT, zleF, zeT, zeF, RdI, WrI, DvI, jmaxI, jminI, jabsI, bI0, Zb0, Zb1, ZbI, ↓reduceIte, not_true_eq_false, not_false_eq_true, ite_not, and_true, true_and, and_false, false_and, and_self, hs, hkk, g1, fX3_readToken_j146]
      · by_cases c1 : kd (tx b) = 1
        · exact Or.inl ⟨kd_lt.mp c1, c1, g3.congq (fun x => by rw [c1]; exact kd_lt)⟩
        · have c2 : kd (tx b) = 2 := by omega
          exact Or.inr (Or.inl ⟨kd_dg.mp c2, c2, g3.congq (fun x => by rw [c2]; exact kd_dg)⟩)
end TP
section TM
variable {tx : Int → Int} {L : Int} {T s p a : Nat → Int32} {n : Int32}
theorem mAt (hT : Tx tx L T) (hL : L ≤ 140) {e x y : Int} (h0 : 0 ≤ e) (h1 : e ≤ L) (hx : 0 ≤ x ∧ x ≤ 255) (hy : 0 ≤ y ∧ y ≤ 255) {st : Int32} {w : Int64} {u : Nat → Int32} : fX9_isAt (s, p, a, n, T, iI L, iI e, st, w, u) (iI x) (iI y) = some (bI (e < L ∧ x ≤ tx e ∧ tx e ≤ y)) := by
  by_cases c : e < L
  · obtain ⟨hb, ht⟩ := hT e h0 c
    clear hT
    by_cases d : x ≤ tx e ∧ tx e ≤ y
    · rw [bIt ⟨c, d⟩]
      obtain ⟨d1, d2⟩ := d
      simp (disch := omega) only [nmD, bdS, b2S, lit32, iA, iS, iM, iN, iLt, iLe, iE, zlT, zlF, zleT, zleF, zeT, zeF, RdI, WrI, DvI, jmaxI, jminI, jabsI, bI0, Zb0, Zb1, ZbI, ↓reduceIte, not_true_eq_false, not_false_eq_true, ite_not, and_true, true_and, and_false, false_and, and_self, fX9_isAt, fX9_isAt_j33, ht, mIn]
    · rw [bIf (fun z => d z.2)]
      simp (disch := omega) only [nmD, bdS, b2S, lit32, iA, iS, iM, iN, iLt, iLe, iE, zlT, zlF, zleT, zleF, zeT, zeF, RdI, WrI, DvI, jmaxI, jminI, jabsI, bI0, Zb0, Zb1, ZbI, ↓reduceIte, not_true_eq_false, not_false_eq_true, ite_not, and_true, true_and, and_false, false_and, and_self, fX9_isAt, fX9_isAt_j32, fX9_isAt_j33, ht, mIn, d]
  · rw [bIf (fun z => c z.1)]
    clear hT
    simp (disch := omega) only [nmD, bdS, b2S, lit32, iA, iS, iM, iN, iLt, iLe, iE, zlT, zlF, zleT, zleF, zeT, zeF, RdI, WrI, DvI, jmaxI, jminI, jabsI, bI0, Zb0, Zb1, ZbI, ↓reduceIte, not_true_eq_false, not_false_eq_true, ite_not, and_true, true_and, and_false, false_and, and_self, fX9_isAt, fX9_isAt_j32, fX9_isAt_j33]
theorem mSkipL (hT : Tx tx L T) (hL : L ≤ 140) {st : Int32} {w : Int64} {u : Nat → Int32} : ∀ (k fu : Nat) (e : Int), 0 ≤ e → e + k = L → k < fu → ∃ b : Int, fX9_skips_l0 fu (s, p, a, n, T, iI L, iI e, st, w, u) = some (s, p, a, n, T, iI L, iI b, iI b, w, u) ∧ RN tx L sp e b := by
  intro k
  induction k with
  | zero =>
    intro fu e h0 h1 h2
    obtain ⟨fu, rfl⟩ : ∃ q, fu = q + 1 := ⟨fu - 1, by omega⟩
    refine ⟨e, ?_, RN.nil (by omega) (fun z => by omega)⟩
    have ha := mAt (s := s) (p := p) (a := a) (n := n) (st := st) (w := w) (u := u) hT hL (e := e) (x := 32) (y := 32) h0 (by omega) (by omega) (by omega)
    rw [bIf (fun z => by omega)] at ha
    clear hT
    rw [fX9_skips_l0_s]
    simp (disch := omega) only [nmD, bdS, b2S, lit32, iA, iS, iM, iN, iLt, iLe, iE, zlT, zlF, zleT, zleF, zeT, zeF, RdI, WrI, DvI, jmaxI, jminI, jabsI, bI0, Zb0, Zb1, ZbI, ↓reduceIte, not_true_eq_false, not_false_eq_true, ite_not, and_true, true_and, and_false, false_and, and_self, ha]
  | succ k ih =>
    intro fu e h0 h1 h2
    obtain ⟨fu, rfl⟩ : ∃ q, fu = q + 1 := ⟨fu - 1, by omega⟩
    have ha := mAt (s := s) (p := p) (a := a) (n := n) (st := st) (w := w) (u := u) hT hL (e := e) (x := 32) (y := 32) h0 (by omega) (by omega) (by omega)
    by_cases c : tx e = 32
    · rw [bIt (by omega)] at ha
      obtain ⟨b, f1, f2⟩ := ih fu (e + 1) (by omega) (by omega) (by omega)
      refine ⟨b, ?_, RN.cons (by omega) c f2⟩
      rw [fX9_skips_l0_s, ← f1]
      clear ih f1 f2 hT
      simp (disch := omega) only [nmD, bdS, b2S, lit32, iA, iS, iM, iN, iLt, iLe, iE, zlT, zlF, zleT, zleF, zeT, zeF, RdI, WrI, DvI, jmaxI, jminI, jabsI, bI0, Zb0, Zb1, ZbI, ↓reduceIte, not_true_eq_false, not_false_eq_true, ite_not, and_true, true_and, and_false, false_and, and_self, ha]
    · rw [bIf (fun z => by omega)] at ha
      refine ⟨e, ?_, RN.nil (by omega) (fun _ => c)⟩
      rw [fX9_skips_l0_s]
      clear ih hT
      simp (disch := omega) only [nmD, bdS, b2S, lit32, iA, iS, iM, iN, iLt, iLe, iE, zlT, zlF, zleT, zleF, zeT, zeF, RdI, WrI, DvI, jmaxI, jminI, jabsI, bI0, Zb0, Zb1, ZbI, ↓reduceIte, not_true_eq_false, not_false_eq_true, ite_not, and_true, true_and, and_false, false_and, and_self, ha]
theorem mSkip (hT : Tx tx L T) (hL : 0 ≤ L ∧ L ≤ 140) {st : Int32} {w : Int64} {u : Nat → Int32} {e : Int} (h0 : 0 ≤ e) (h1 : e ≤ L) : ∃ b : Int, fX9_skips (s, p, a, n, T, iI L, iI e, st, w, u) = some (s, p, a, n, T, iI L, iI b, iI b, w, u) ∧ RN tx L sp e b := by
  have ha := mAt (s := s) (p := p) (a := a) (n := n) (st := st) (w := w) (u := u) hT hL.2 (e := e) (x := 32) (y := 32) h0 h1 (by omega) (by omega)
  by_cases c : e < L ∧ tx e = 32
  · rw [bIt (by omega)] at ha
    obtain ⟨b, f1, f2⟩ := mSkipL (s := s) (p := p) (a := a) (n := n) (st := st) (w := w) (u := u) hT hL.2 (L - (e + 1)).toNat FU (e + 1) (by omega) (by omega) (by unfold FU; omega)
    refine ⟨b, ?_, RN.cons c.1 c.2 f2⟩
    unfold fX9_skips
    rw [← f1]
    clear f1 f2 hT
    simp (disch := omega) only [nmD, bdS, b2S, lit32, iA, iS, iM, iN, iLt, iLe, iE, zlT, zlF, zleT, zleF, zeT, zeF, RdI, WrI, DvI, jmaxI, jminI, jabsI, bI0, Zb0, Zb1, ZbI, ↓reduceIte, not_true_eq_false, not_false_eq_true, ite_not, and_true, true_and, and_false, false_and, and_self, ha]
  · rw [bIf (fun z => c ⟨z.1, by omega⟩)] at ha
    refine ⟨e, ?_, RN.nil h1 (fun z w => c ⟨z, w⟩)⟩
    unfold fX9_skips
    clear hT
    simp (disch := omega) only [nmD, bdS, b2S, lit32, iA, iS, iM, iN, iLt, iLe, iE, zlT, zlF, zleT, zleF, zeT, zeF, RdI, WrI, DvI, jmaxI, jminI, jabsI, bI0, Zb0, Zb1, ZbI, ↓reduceIte, not_true_eq_false, not_false_eq_true, ite_not, and_true, true_and, and_false, false_and, and_self, ha]
end TM
