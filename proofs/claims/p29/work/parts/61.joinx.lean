/-! A merge: the class's side. -/
theorem plCong (V : Vn) (T : Tb) (x : Int32) : ∀ (fu : Nat), fX7_paymentsLeft_l4 (V.1, T, V.2.2) x fu = fX7_paymentsLeft_l4 V x fu := fun _ => rfl
theorem plCong2 (V : Vn) (T : Tb) (x : Int32) : fX7_paymentsLeft (V.1, T, V.2.2) x = fX7_paymentsLeft V x := by
  unfold fX7_paymentsLeft
  rw [plCong]
theorem if_c {p q : Prop} [Decidable p] [Decidable q] (h : p ↔ q) {a b : Int} : (if p then a else b) = if q then a else b := by
  by_cases e : q
  · rw [if_pos e, if_pos (h.mpr e)]
  · rw [if_neg e, if_neg (fun z => e (h.mp z))]
theorem sum_ones : ∀ l : List Int, (∀ x ∈ l, x = 1) → l.sum = len l
  | [], _ => rfl
  | a :: l, h => by
    have h1 := h a List.mem_cons_self
    have h2 := sum_ones l (fun x hx => h x (List.mem_cons_of_mem _ hx))
    have h3 : len (a :: l) = len l + 1 := by unfold len; rw [List.length_cons]; omega
    rw [List.sum_cons, h2]
    omega
theorem cn_full {A : Ab} {K : Int} (hW : WF K A) {i : Int} (h1 : 0 ≤ i) (h2 : i < A.nB) (h3 : A.B i 3 = 0) : cn A i = len (A.rows i) := by
  unfold cn
  rw [sum_ones]
  · unfold len
    rw [List.length_map]
  · intro x hx
    obtain ⟨p, hp, rfl⟩ := List.mem_map.mp hx
    exact if_pos ((hW.p h1 h2 hp).2.2.2 h3)
section JX
variable {X : Vn} {Rm B V : Int → Int → Int} {S : Int → Int} {rows : Int → List Int} {F U : Int → Int} {nR nB nV t : Int}
theorem fxB (h : RepX X (mkA Rm B V S rows F U nR nB nV t)) {i c v : Int} (a1 : 0 ≤ i) (a2 : i < nB) (a3 : 0 ≤ c) (a4 : c < 6) : RepX (X.1, (X.2.1.1, upd X.2.1.2 (i * 10 + c).toNat (iI v)), X.2.2) (mkA Rm (up2 B i c v) V S rows F U nR nB nV t) := by
  have q := RepX.setB h (i := i) (c := c) (v := v) a1 a2 a3 (by omega) (by omega)
  rw [show clm c = c from if_pos a4] at q
  exact q
theorem xHand (h : RepX X (mkA Rm B V S rows F U nR nB nV t)) (hnB : nB ≤ 16) {i j c a b w : Int} (hi : 0 ≤ i ∧ i < nB) (hj : 0 ≤ j ∧ j < nB) (hij : i < j ∨ j < i) (hc : 0 ≤ c ∧ c < 6) (ha : B i c = a) (hb : B j c = b) (hw : b + a = w) : ∃ T : Tb, fX0_handOver X (iI i) (iI j) (iI c) = some (X.1, T, X.2.2) ∧ RepX (X.1, T, X.2.2) (mkA Rm (up2 (up2 B j c w) i c 0) V S rows F U nR nB nV t) := by
  have hT : X.2.1.1 = iI nB := h.2.1
  have g : ∀ x : Int, 0 ≤ x → x < nB → fX6_cell 160 (iI 16) (iI 10) X.2.1 (iI x) (iI c) = some (iI (B x c)) := fun x x0 x1 => by
    have e := h.2.2.2.2.2.2.1 x c x0 x1 hc.1 (by omega) (by omega)
    rw [show clm c = c from if_pos hc.2] at e
    rw [cellI10 hT hnB x0 x1 hc.1 (by omega)]
    exact congrArg some e
  have gi := g i hi.1 hi.2
  have gj := g j hj.1 hj.2
  rw [ha] at gi
  rw [hb] at gj
  have z1 := fxB h (i := j) (c := c) (v := w) hj.1 hj.2 hc.1 hc.2
  have z2 := fxB z1 (i := i) (c := c) (v := 0) hi.1 hi.2 hc.1 hc.2
  have p1 := putI10 (T := X.2.1) (r := j) (c := c) (x := iI w) hT hnB hj.1 hj.2 hc.1 (by omega)
  have p2 := putI10 (T := (X.2.1.1, upd X.2.1.2 (j * 10 + c).toNat (iI w))) (r := i) (c := c) (x := iI 0) hT hnB hi.1 hi.2 hc.1 (by omega)
  refine ⟨_, ?_, z2⟩
  clear z1 z2 h g ha hb
  simp (disch := omega) only [nmD, bdS, b2S, lit32, iA, iS, iM, iN, iLt, iLe, iE, zlT, zlF, zleT, zleF, zeT, zeF, RdI, WrI, DvI, jmaxI, jminI, jabsI, bI0, Zb0, Zb1, ZbI, ↓reduceIte, not_true_eq_false, not_false_eq_true, ite_not, and_true, true_and, and_false, false_and, and_self, fX0_handOver, fX6_raise, gi, gj, hw, p1, p2]
end JX
section JP
variable {A : Ab} {K : Int} {nP : Int} {pb pq pl : Int → Int}
def Cs (A : Ab) (nP : Int) (pb pq pl : Int → Int) (i j a z : Int) (T : Tb) : Prop := T.1 = iI nP ∧ ∀ y : Int, 0 ≤ y → y < nP → T.2 (y * 4 + 0).toNat = iI (if y < z ∧ pb y = i then j else pb y) ∧ T.2 (y * 4 + 1).toNat = iI (A.F (pq y)) ∧ T.2 (y * 4 + 2).toNat = iI (A.U (pq y)) ∧ T.2 (y * 4 + 3).toNat = iI (if y < z ∧ pb y = i then pl y + a else pl y)
theorem xHop {i j a : Int} (hn : nP ≤ 16) (hi : 0 ≤ i ∧ i ≤ 16) (hb : ∀ y : Int, 0 ≤ y → y < nP → 0 ≤ pb y ∧ pb y ≤ 16) (X : Vn) (T1 : Tb) : ∀ (k fu : Nat) (z : Int) (T : Tb), 0 ≤ z → z + k = nP → k < fu → Cs A nP pb pq pl i j a z T → ∃ T' : Tb, fX0_handOverPayments_l12 (iI i) (iI j) (iI a) fu (X.1, T1, X.2.2.1, T, X.2.2.2.2) (iI z) = some (X.1, T1, X.2.2.1, T', X.2.2.2.2) ∧ Cs A nP pb pq pl i j a nP T' := by
  intro k
  induction k with
  | zero =>
    intro fu z T h0 h1 h2 h3
    obtain ⟨fu, rfl⟩ : ∃ q, fu = q + 1 := ⟨fu - 1, by omega⟩
    obtain rfl : z = nP := by omega
    refine ⟨T, ?_, h3⟩
    have hs : fX6_size 64 (iI 16) (iI 4) T = some (iI z) := by rw [← h3.1]; rfl
    clear h3 hb
    rw [fX0_handOverPayments_l12_s]
    simp (disch := omega) only [nmD, bdS, b2S, lit32, iA, iS, iM, iN, iLt, iLe, iE, zlT, zlF, zleT, zleF, zeT, zeF, RdI, WrI, DvI, jmaxI, jminI, jabsI, bI0, Zb0, Zb1, ZbI, ↓reduceIte, not_true_eq_false, not_false_eq_true, ite_not, and_true, true_and, and_false, false_and, and_self, hs]
  | succ k ih =>
    intro fu z T h0 h1 h2 h3
    obtain ⟨fu, rfl⟩ : ∃ q, fu = q + 1 := ⟨fu - 1, by omega⟩
    have hs : fX6_size 64 (iI 16) (iI 4) T = some (iI nP) := by rw [← h3.1]; rfl
    obtain ⟨q0, q1, q2, q3⟩ := h3.2 z h0 (by omega)
    rw [if_neg (by omega)] at q0 q3
    have c0 : fX6_cell 64 (iI 16) (iI 4) T (iI z) (iI 0) = some (iI (pb z)) := by rw [cellI4 h3.1 hn h0 (by omega) (by omega) (by omega), q0]
    have hbz := hb z h0 (by omega)
    by_cases e : pb z = i
    · have p0 := putI4 (T := T) (r := z) (c := 0) (x := iI j) h3.1 hn h0 (by omega) (by omega) (by omega)
      have c3 : fX6_cell 64 (iI 16) (iI 4) (T.1, upd T.2 (z * 4 + 0).toNat (iI j)) (iI z) (iI 3) = some (iI (pl z)) := by
        rw [cellI4 (T := (T.1, upd T.2 (z * 4 + 0).toNat (iI j))) h3.1 hn h0 (by omega) (by omega) (by omega)]
        show some (upd T.2 (z * 4 + 0).toNat (iI j) (z * 4 + 3).toNat) = _
        rw [ud_n (by omega), q3]
      have p3 := putI4 (T := (T.1, upd T.2 (z * 4 + 0).toNat (iI j))) (r := z) (c := 3) (x := iI (pl z + a)) h3.1 hn h0 (by omega) (by omega) (by omega)
      obtain ⟨T', f1, f2⟩ := ih fu (z + 1) (T.1, upd (upd T.2 (z * 4 + 0).toNat (iI j)) (z * 4 + 3).toNat (iI (pl z + a))) (by omega) (by omega) (by omega) ⟨h3.1, fun y y0 y1 => by
        obtain ⟨g0, g1, g2, g3⟩ := h3.2 y y0 y1
        show upd (upd T.2 (z * 4 + 0).toNat (iI j)) (z * 4 + 3).toNat (iI (pl z + a)) (y * 4 + 0).toNat = _ ∧ upd (upd T.2 (z * 4 + 0).toNat (iI j)) (z * 4 + 3).toNat (iI (pl z + a)) (y * 4 + 1).toNat = _ ∧ upd (upd T.2 (z * 4 + 0).toNat (iI j)) (z * 4 + 3).toNat (iI (pl z + a)) (y * 4 + 2).toNat = _ ∧ upd (upd T.2 (z * 4 + 0).toNat (iI j)) (z * 4 + 3).toNat (iI (pl z + a)) (y * 4 + 3).toNat = _
        by_cases f : y = z
        · subst f
          rw [if_pos ⟨by omega, e⟩, if_pos ⟨by omega, e⟩, ud_n (by omega), ud_s, ud_n (by omega), ud_n (by omega), ud_n (by omega), ud_n (by omega), ud_s]
          exact ⟨rfl, q1, q2, rfl⟩
        · have ei : (y < z + 1 ∧ pb y = i) ↔ (y < z ∧ pb y = i) := ⟨fun w => ⟨by omega, w.2⟩, fun w => ⟨by omega, w.2⟩⟩
          rw [if_c ei, if_c ei, ud_n (by omega), ud_n (by omega), ud_n (by omega), ud_n (by omega), ud_n (by omega), ud_n (by omega), ud_n (by omega), ud_n (by omega)]
          exact ⟨g0, g1, g2, g3⟩⟩
      refine ⟨T', ?_, f2⟩
      rw [fX0_handOverPayments_l12_s, ← f1]
      clear ih f1 f2 h3 hb q0 q1 q2 q3
      simp (disch := omega) only [nmD, bdS, b2S, lit32, iA, iS, iM, iN, iLt, iLe, iE, zlT, zlF, zleT, zleF, zeT, zeF, RdI, WrI, DvI, jmaxI, jminI, jabsI, bI0, Zb0, Zb1, ZbI, ↓reduceIte, not_true_eq_false, not_false_eq_true, ite_not, and_true, true_and, and_false, false_and, and_self, hs, c0, e, p0, fX6_raise, c3, p3, fX0_handOverPayments_j60]
    · obtain ⟨T', f1, f2⟩ := ih fu (z + 1) T (by omega) (by omega) (by omega) ⟨h3.1, fun y y0 y1 => by
        have ei : (y < z + 1 ∧ pb y = i) ↔ (y < z ∧ pb y = i) := ⟨fun w => ⟨by
          by_cases f : y = z
          · rw [f] at w; exact absurd w.2 e
          · omega, w.2⟩, fun w => ⟨by omega, w.2⟩⟩
        rw [if_c ei, if_c ei]
        exact h3.2 y y0 y1⟩
      refine ⟨T', ?_, f2⟩
      rw [fX0_handOverPayments_l12_s, ← f1]
      clear ih f1 f2 h3 hb q0 q1 q2 q3
      simp (disch := omega) only [nmD, bdS, b2S, lit32, iA, iS, iM, iN, iLt, iLe, iE, zlT, zlF, zleT, zleF, zeT, zeF, RdI, WrI, DvI, jmaxI, jminI, jabsI, bI0, Zb0, Zb1, ZbI, ↓reduceIte, not_true_eq_false, not_false_eq_true, ite_not, and_true, true_and, and_false, false_and, and_self, hs, c0, fX0_handOverPayments_j60]
/-- the payments behind a merge -/
theorem PP.join {T T' : Tb} (h : PP T A nP pb pq pl) (hW : WF K A) {i j : Int} {Rm B V : Int → Int → Int} {S : Int → Int} {nR nV t : Int} (hi : 0 ≤ i ∧ i < A.nB) (hj : 0 ≤ j ∧ j < A.nB) (hij : i < j ∨ j < i) (hc : Cs A nP pb pq pl i j (len (A.rows j)) nP T') : PP T' (mkA Rm B V S (jL A i j) A.F A.U nR A.nB nV t) nP (fun y => if pb y = i then j else pb y) pq (fun y => if pb y = i then pl y + len (A.rows j) else pl y) := by
  obtain ⟨p1, p2, p3, p4, p5, p6⟩ := h
  have l0 := len_0 (A.rows j)
  refine ⟨hc.1, p2, p3, fun y y0 y1 => ?_, fun x y x0 x1 y0 y1 e1 e2 => ?_, fun x k x0 x1 k0 k1 => ?_⟩
  · obtain ⟨g0, g1, g2, g3⟩ := hc.2 y y0 y1
    obtain ⟨q0, q1, q2, q3, q4, q5, q6, q7, q8⟩ := p4 y y0 y1
    have ei : (y < nP ∧ pb y = i) ↔ pb y = i := ⟨fun w => w.2, fun w => ⟨y1, w⟩⟩
    rw [if_c ei] at g0 g3
    show _ ∧ _ ∧ _ ∧ _ ∧ 0 ≤ (if pb y = i then j else pb y) ∧ (if pb y = i then j else pb y) < A.nB ∧ 0 ≤ (if pb y = i then pl y + len (A.rows j) else pl y) ∧ (if pb y = i then pl y + len (A.rows j) else pl y) < len (jL A i j (if pb y = i then j else pb y)) ∧ at' (jL A i j (if pb y = i then j else pb y)) (if pb y = i then pl y + len (A.rows j) else pl y) = pq y
    refine ⟨g0, g1, g2, g3, ?_⟩
    by_cases e : pb y = i
    · rw [e] at q7 q8
      rw [if_pos e, if_pos e, jL_j hij, len_app, at_app2 q6]
      exact ⟨hj.1, hj.2, by omega, by omega, q8⟩
    · rw [if_neg e, if_neg e]
      by_cases f : pb y = j
      · rw [f] at q7 q8
        rw [f, jL_j hij, len_app, at_app1 q6 q7]
        have := len_0 (A.rows i)
        exact ⟨hj.1, hj.2, by omega, by omega, q8⟩
      · rw [jL_o (by omega) (by omega)]
        exact ⟨q4, q5, q6, q7, q8⟩
  · have e1 : (if pb x = i then j else pb x) = (if pb y = i then j else pb y) := e1
    have e2 : (if pb x = i then pl x + len (A.rows j) else pl x) = (if pb y = i then pl y + len (A.rows j) else pl y) := e2
    obtain ⟨-, -, -, -, -, -, q6, q7, -⟩ := p4 x x0 x1
    obtain ⟨-, -, -, -, -, -, r6, r7, -⟩ := p4 y y0 y1
    by_cases ex : pb x = i
    · by_cases ey : pb y = i
      · rw [if_pos ex, if_pos ey] at e2
        exact p5 x y x0 x1 y0 y1 (by omega) (by omega)
      · rw [if_pos ex, if_neg ey] at e1 e2
        rw [← e1] at r7
        omega
    · by_cases ey : pb y = i
      · rw [if_neg ex, if_pos ey] at e1 e2
        rw [e1] at q7
        omega
      · rw [if_neg ex, if_neg ey] at e1 e2
        exact p5 x y x0 x1 y0 y1 e1 e2
  · have k1 : k < len (jL A i j x) := k1
    have x1 : x < A.nB := x1
    show ∃ y : Int, 0 ≤ y ∧ y < nP ∧ (if pb y = i then j else pb y) = x ∧ (if pb y = i then pl y + len (A.rows j) else pl y) = k
    by_cases e : x = i
    · rw [e, jL_i, len_nil] at k1
      omega
    · by_cases f : x = j
      · rw [f, jL_j hij, len_app] at k1
        by_cases g : k < len (A.rows j)
        · obtain ⟨y, a1, a2, a3, a4⟩ := p6 j k hj.1 hj.2 k0 g
          exact ⟨y, a1, a2, by rw [if_neg (by omega)]; omega, by rw [if_neg (by omega)]; exact a4⟩
        · obtain ⟨y, a1, a2, a3, a4⟩ := p6 i (k - len (A.rows j)) hi.1 hi.2 (by omega) (by omega)
          exact ⟨y, a1, a2, by rw [if_pos a3]; omega, by rw [if_pos a3]; omega⟩
      · rw [jL_o (by omega) (by omega)] at k1
        obtain ⟨y, a1, a2, a3, a4⟩ := p6 x k x0 x1 k0 k1
        exact ⟨y, a1, a2, by rw [if_neg (by omega)]; exact a3, by rw [if_neg (by omega)]; exact a4⟩
end JP
