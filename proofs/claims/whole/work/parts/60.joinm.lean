/-! A merge: the reference's side. -/
section JM
variable {b : Nat → Int32} {Rm B V : Int → Int → Int} {S : Int → Int} {rows : Int → List Int} {F U : Int → Int} {nR nB nV t : Int} {R : Rs}
/-- one more payment of a booking -/
theorem flA (h : RepM b (mkA Rm B V S rows F U nR nB nV t)) (hnB : nB ≤ 16) (hl : ∀ i : Int, 0 ≤ i → i < nB → len (rows i) ≤ 16) {j p : Int} (j0 : 0 ≤ j) (j1 : j < nB) (l0 : 0 ≤ len (rows j)) (hlt : len (rows j) < 16) : RepM (upd (upd b (213 + 16 * j + len (rows j)).toNat (iI p)) (197 + j).toNat (iI (len (rows j) + 1))) (mkA Rm B V S (up1 rows j (rows j ++ [p])) F U nR nB nV t) := by
  obtain ⟨h0, h1, h2, h3, hS, hR, hB, hV, hL, hF⟩ := h
  refine ⟨?_, ?_, ?_, ?_, ?_, ?_, ?_, ?_, ?_, ?_⟩
  · rw [ud_n (by omega), ud_n (by omega)]; exact h0
  · rw [ud_n (by omega), ud_n (by omega)]; exact h1
  · rw [ud_n (by omega), ud_n (by omega)]; exact h2
  · rw [ud_n (by omega), ud_n (by omega)]; exact h3
  · intro k k1 k2; rw [ud_n (by omega), ud_n (by omega)]; exact hS k k1 k2
  · intro x y q1 q2 q3 q4; rw [ud_n (by omega), ud_n (by omega)]; exact hR x y q1 q2 q3 q4
  · intro x y q1 q2 q3 q4; rw [ud_n (by omega), ud_n (by omega)]; exact hB x y q1 q2 q3 q4
  · intro x y q1 q2 q3 q4; rw [ud_n (by omega), ud_n (by omega)]; exact hV x y q1 q2 q3 q4
  · intro i i1 (i2 : i < nB)
    obtain ⟨g1, g2⟩ := hL i i1 i2
    have hli := hl i i1 i2
    have g1 : b (197 + i).toNat = iI (len (rows i)) := g1
    have g2 : ∀ k : Int, 0 ≤ k → k < len (rows i) → b (213 + 16 * i + k).toNat = iI (at' (rows i) k) := g2
    show upd (upd b (213 + 16 * j + len (rows j)).toNat (iI p)) (197 + j).toNat (iI (len (rows j) + 1)) (197 + i).toNat = iI (len (up1 rows j (rows j ++ [p]) i)) ∧ ∀ k : Int, 0 ≤ k → k < len (up1 rows j (rows j ++ [p]) i) → upd (upd b (213 + 16 * j + len (rows j)).toNat (iI p)) (197 + j).toNat (iI (len (rows j) + 1)) (213 + 16 * i + k).toNat = iI (at' (up1 rows j (rows j ++ [p]) i) k)
    by_cases e : i = j
    · rw [e, up1_s, len_app, len_one]
      refine ⟨ud_s, fun k k0 k1 => ?_⟩
      rw [ud_n (by omega)]
      by_cases f : k = len (rows j)
      · have e2 := at_app2 (l := rows j) (m := [p]) (k := 0) (by omega)
        rw [Int.zero_add, at_one] at e2
        rw [f, ud_s, e2]
      · rw [ud_n (by omega), at_app1 k0 (by omega)]
        rw [e] at g2
        exact g2 k k0 (by omega)
    · rw [up1_n _ _ (by omega)]
      exact ⟨by rw [ud_n (by omega), ud_n (by omega)]; exact g1, fun k k0 k1 => by rw [ud_n (by omega), ud_n (by omega)]; exact g2 k k0 k1⟩
  · intro p p1 p2
    obtain ⟨g1, g2⟩ := hF p p1 p2
    exact ⟨by rw [ud_n (by omega), ud_n (by omega)]; exact g1, by rw [ud_n (by omega), ud_n (by omega)]; exact g2⟩
/-- no payment -/
theorem flZ (h : RepM b (mkA Rm B V S rows F U nR nB nV t)) (hnB : nB ≤ 16) (hl : ∀ i : Int, 0 ≤ i → i < nB → len (rows i) ≤ 16) {j : Int} (j0 : 0 ≤ j) (j1 : j < nB) : RepM (upd b (197 + j).toNat (iI 0)) (mkA Rm B V S (up1 rows j []) F U nR nB nV t) := by
  obtain ⟨h0, h1, h2, h3, hS, hR, hB, hV, hL, hF⟩ := h
  refine ⟨?_, ?_, ?_, ?_, ?_, ?_, ?_, ?_, ?_, ?_⟩
  · rw [ud_n (by omega)]; exact h0
  · rw [ud_n (by omega)]; exact h1
  · rw [ud_n (by omega)]; exact h2
  · rw [ud_n (by omega)]; exact h3
  · intro k k1 k2; rw [ud_n (by omega)]; exact hS k k1 k2
  · intro x y q1 q2 q3 q4; rw [ud_n (by omega)]; exact hR x y q1 q2 q3 q4
  · intro x y q1 q2 q3 q4; rw [ud_n (by omega)]; exact hB x y q1 q2 q3 q4
  · intro x y q1 q2 q3 q4; rw [ud_n (by omega)]; exact hV x y q1 q2 q3 q4
  · intro i i1 (i2 : i < nB)
    obtain ⟨g1, g2⟩ := hL i i1 i2
    have hli := hl i i1 i2
    have g1 : b (197 + i).toNat = iI (len (rows i)) := g1
    have g2 : ∀ k : Int, 0 ≤ k → k < len (rows i) → b (213 + 16 * i + k).toNat = iI (at' (rows i) k) := g2
    show upd b (197 + j).toNat (iI 0) (197 + i).toNat = iI (len (up1 rows j [] i)) ∧ ∀ k : Int, 0 ≤ k → k < len (up1 rows j [] i) → upd b (197 + j).toNat (iI 0) (213 + 16 * i + k).toNat = iI (at' (up1 rows j [] i) k)
    by_cases e : i = j
    · rw [e, up1_s, len_nil]
      exact ⟨ud_s, fun k k0 k1 => by omega⟩
    · rw [up1_n _ _ (by omega)]
      exact ⟨by rw [ud_n (by omega)]; exact g1, fun k k0 k1 => by rw [ud_n (by omega)]; exact g2 k k0 k1⟩
  · intro p p1 p2
    obtain ⟨g1, g2⟩ := hF p p1 p2
    exact ⟨by rw [ud_n (by omega)]; exact g1, by rw [ud_n (by omega)]; exact g2⟩
theorem flr (h : RepM b (mkA Rm B V S rows F U nR nB nV t)) {i : Int} (h1 : 0 ≤ i) (h2 : i < nB) : b (197 + i).toNat = iI (len (rows i)) ∧ ∀ k : Int, 0 ≤ k → k < len (rows i) → b (213 + 16 * i + k).toNat = iI (at' (rows i) k) := h.2.2.2.2.2.2.2.2.1 i h1 h2
theorem len_0 (l : List Int) : 0 ≤ len l := by unfold len; omega
theorem mJoinL {i j : Int} (hnB : nB ≤ 16) (hi : 0 ≤ i ∧ i < nB) (hj : 0 ≤ j ∧ j < nB) (hij : i < j ∨ j < i) : ∀ (k fu : Nat) (z : Int) (s : Nat → Int32) (rows : Int → List Int), RepM s (mkA Rm B V S rows F U nR nB nV t) → (∀ x : Int, 0 ≤ x → x < nB → len (rows x) ≤ 16) → 0 ≤ z → z + k = len (rows i) → k < fu → len (rows j) + k ≤ 16 → ∃ s' : Nat → Int32, (∀ kk : Md → Option (Int32 × Md), fX9_doJoin_l127 (iI i) (iI j) kk fu (s, R) (iI z) = kk (s', R)) ∧ RepM s' (mkA Rm B V S (up1 rows j (rows j ++ (rows i).drop z.toNat)) F U nR nB nV t) ∧ ∀ q : Nat, 517 ≤ q → s' q = s q := by
  intro k
  induction k with
  | zero =>
    intro fu z s rows hM hl h0 h1 h2 h3
    obtain ⟨fu, rfl⟩ : ∃ q, fu = q + 1 := ⟨fu - 1, by omega⟩
    have ed : (rows i).drop z.toNat = [] := List.drop_of_length_le (by unfold len at h1; omega)
    refine ⟨s, fun kk => ?_, by rw [ed, List.append_nil, up1_id]; exact hM, fun _ _ => rfl⟩
    have e1 := (flr hM hi.1 hi.2).1
    have hli := hl i hi.1 hi.2
    clear hM hl ed
    rw [fX9_doJoin_l127_s]
    simp (disch := omega) only [nmD, bdS, b2S, lit32, iA, iS, iM, iN, iLt, iLe, iE, zlT, zlF, zleT, zleF, zeT, zeF, RdI, WrI, DvI, jmaxI, jminI, jabsI, bI0, Zb0, Zb1, ZbI, ↓reduceIte, not_true_eq_false, not_false_eq_true, ite_not, and_true, true_and, and_false, false_and, and_self, e1]
  | succ k ih =>
    intro fu z s rows hM hl h0 h1 h2 h3
    obtain ⟨fu, rfl⟩ : ∃ q, fu = q + 1 := ⟨fu - 1, by omega⟩
    have l0 := len_0 (rows j)
    have hli := hl i hi.1 hi.2
    have e1 := (flr hM hi.1 hi.2).1
    have e2 := (flr hM hj.1 hj.2).1
    have e3 := (flr hM hi.1 hi.2).2 z h0 (by omega)
    have hA := flA (p := at' (rows i) z) hM hnB hl hj.1 hj.2 l0 (by omega)
    have ri : up1 rows j (rows j ++ [at' (rows i) z]) i = rows i := up1_n _ _ (by omega)
    have rj : up1 rows j (rows j ++ [at' (rows i) z]) j = rows j ++ [at' (rows i) z] := up1_s _ _ _
    obtain ⟨s', f1, f2, f3⟩ := ih fu (z + 1) _ _ hA (fun x x0 x1 => by
      by_cases e : x = j
      · rw [e, rj, len_app, len_one]; omega
      · rw [up1_n _ _ (by omega)]; exact hl x x0 x1) (by omega) (by rw [ri]; omega) (by omega) (by rw [rj, len_app, len_one]; omega)
    refine ⟨s', fun kk => ?_, ?_, fun q hq => by rw [f3 q hq, ud_n (by omega), ud_n (by omega)]⟩
    · have f1 := f1 kk
      have e4 : upd s (213 + 16 * j + len (rows j)).toNat (iI (at' (rows i) z)) (197 + j).toNat = iI (len (rows j)) := by rw [ud_n (by omega)]; exact e2
      rw [fX9_doJoin_l127_s, ← f1]
      clear ih f1 f2 f3 hA hM hl ri rj
      simp (disch := omega) only [nmD, bdS, b2S, lit32, iA, iS, iM, iN, iLt, iLe, iE, zlT, zlF, zleT, zleF, zeT, zeF, RdI, WrI, DvI, jmaxI, jminI, jabsI, bI0, Zb0, Zb1, ZbI, ↓reduceIte, not_true_eq_false, not_false_eq_true, ite_not, and_true, true_and, and_false, false_and, and_self, e1, e2, e3, e4]
    · rw [ri, rj, up1_up1, List.append_assoc, ← drop_at h0 (by omega)] at f2
      exact f2
theorem flAdds (h : RepM b (mkA Rm B V S rows F U nR nB nV t)) (hnB : nB ≤ 16) (hl : ∀ i : Int, 0 ≤ i → i < nB → len (rows i) ≤ 16) {i c x w : Int} (h1 : 0 ≤ i) (h2 : i < 16) (h3 : 0 ≤ c) (h4 : c < 9) (hw : B i c + x = w) : ∃ s' : Nat → Int32, fX9_adds (b, R) (iI i) (iI c) (iI x) = some (s', R) ∧ RepM s' (mkA Rm (up2 B i c w) V S rows F U nR nB nV t) ∧ ∀ j : Nat, 517 ≤ j → s' j = b j := by
  subst hw
  exact ⟨_, mAdds h h1 h2 h3 h4, flB h hnB hl h1 h2 h3 h4, fun j hj => ud_n (by omega)⟩
theorem flIts (h : RepM b (mkA Rm B V S rows F U nR nB nV t)) {i c w : Int} (h1 : 0 ≤ i) (h2 : i < 16) (h3 : 0 ≤ c) (h4 : c < 9) (hw : B i c = w) : fX9_its (b, R) (iI i) (iI c) = some (iI w) := by
  subst hw
  exact mBo (M := (b, R)) h h1 h2 h3 h4
end JM
section JM2
variable {A : Ab} {K : Int} {s : Nat → Int32} {R : Rs} {i j : Int}
set_option maxHeartbeats 4000000 in
theorem mJoin (hM : RepM s A) (hW : WF K A) (hi : 0 ≤ i ∧ i < A.nB) (hj : 0 ≤ j ∧ j < A.nB) (hij : i < j ∨ j < i) (si : A.B i 3 = 0) (sj : A.B j 3 = 0) (he : A.B i 0 = A.B j 0) (hp : A.B i 2 + A.B j 2 ≤ A.R (A.B j 0) 3) : ∃ s' : Nat → Int32, fX9_doJoin (s, R) (iI i) (iI j) = some (iI (A.B i 2 + A.B j 2), (s', R)) ∧ RepM s' (jn A i j) ∧ ∀ q : Nat, 517 ≤ q → s' q = s q := by
  have hN := hW.n
  have hl := hW.l16
  have hbi := hW.b hi.1 hi.2
  have hbj := hW.b hj.1 hj.2
  have hr3 := (hW.r hbj.1.1 hbj.1.2).2.2.2.1
  have hal := (app_len hW hi hj hij).2
  have hMt : RepM ((s, R) : Md).1 A := hM
  have b1 := mIsB hMt hW (x := i) (by omega) (by omega)
  have b2 := mIsB hMt hW (x := j) (by omega) (by omega)
  have i3 := mBo hMt (i := i) (c := 3) hi.1 (by omega) (by omega) (by omega)
  have j3 := mBo hMt (i := j) (c := 3) hj.1 (by omega) (by omega) (by omega)
  have i0 := mBo hMt (i := i) (c := 0) hi.1 (by omega) (by omega) (by omega)
  have j0 := mBo hMt (i := j) (c := 0) hj.1 (by omega) (by omega) (by omega)
  have i2 := mBo hMt (i := i) (c := 2) hi.1 (by omega) (by omega) (by omega)
  have j2 := mBo hMt (i := j) (c := 2) hj.1 (by omega) (by omega) (by omega)
  have r3 := mRo hMt (r := A.B j 0) (c := 3) hbj.1.1 (by omega) (by omega) (by omega)
  have hM : RepM s (mkA A.R A.B A.V A.S A.rows A.F A.U A.nR A.nB A.nV A.t) := hM
  obtain ⟨s1, k1, z1, t1⟩ := flAdds (R := R) hM hl.1 hl.2 (i := j) (c := 2) (x := A.B i 2) hj.1 (by omega) (by omega) (by omega) rfl
  have g4 := flIts (R := R) z1 (i := i) (c := 4) (w := A.B i 4) hi.1 (by omega) (by omega) (by omega) (by rw [up2_n _ _ (by omega)])
  obtain ⟨s2, k2, z2, t2⟩ := flAdds (R := R) z1 hl.1 hl.2 (i := j) (c := 4) (x := A.B i 4) (w := A.B j 4 + A.B i 4) hj.1 (by omega) (by omega) (by omega) (by rw [up2_n _ _ (by omega)])
  have g5 := flIts (R := R) z2 (i := i) (c := 5) (w := A.B i 5) hi.1 (by omega) (by omega) (by omega) (by rw [up2_n _ _ (by omega), up2_n _ _ (by omega)])
  obtain ⟨s3, k3, z3, t3⟩ := flAdds (R := R) z2 hl.1 hl.2 (i := j) (c := 5) (x := A.B i 5) (w := A.B j 5 + A.B i 5) hj.1 (by omega) (by omega) (by omega) (by rw [up2_n _ _ (by omega), up2_n _ _ (by omega)])
  obtain ⟨s4, k4, z4, t4⟩ := mJoinL (R := R) hl.1 hi hj hij (len (A.rows i)).toNat FU 0 s3 A.rows z3 hl.2 (by omega) (by have := len_0 (A.rows i); omega) (by have := hl.2 i hi.1 hi.2; unfold FU; omega) (by have := len_0 (A.rows i); omega)
  rw [show (0 : Int).toNat = 0 from rfl, List.drop_zero] at z4
  have hl4 : ∀ x : Int, 0 ≤ x → x < A.nB → len (up1 A.rows j (A.rows j ++ A.rows i) x) ≤ 16 := fun x x0 x1 => by
    by_cases e : x = j
    · rw [e, up1_s, len_app]; exact hal
    · rw [up1_n _ _ (by omega)]; exact hl.2 x x0 x1
  have hl5 : ∀ x : Int, 0 ≤ x → x < A.nB → len (up1 (up1 A.rows j (A.rows j ++ A.rows i)) i [] x) ≤ 16 := fun x x0 x1 => by
    by_cases e : x = i
    · rw [e, up1_s, len_nil]; omega
    · rw [up1_n _ _ (by omega)]; exact hl4 x x0 x1
  have z5 := flZ z4 hl.1 hl4 hi.1 hi.2
  obtain ⟨s6, k6, z6, t6⟩ := flLays (R := R) z5 hl.1 hl5 (i := i) (c := 2) (v := 0) hi.1 (by omega) (by omega) (by omega)
  obtain ⟨s7, k7, z7, t7⟩ := flLays (R := R) z6 hl.1 hl5 (i := i) (c := 4) (v := 0) hi.1 (by omega) (by omega) (by omega)
  obtain ⟨s8, k8, z8, t8⟩ := flLays (R := R) z7 hl.1 hl5 (i := i) (c := 5) (v := 0) hi.1 (by omega) (by omega) (by omega)
  obtain ⟨s9, k9, z9, t9⟩ := flLays (R := R) z8 hl.1 hl5 (i := i) (c := 3) (v := 3) hi.1 (by omega) (by omega) (by omega)
  rw [jB_alt A hij] at z9
  have z9 : RepM s9 (jn A i j) := z9
  have g2 := mBo (M := (s9, R)) z9 (i := j) (c := 2) hj.1 (by omega) (by omega) (by omega)
  rw [jn_j2 hij, show A.B j 2 + A.B i 2 = A.B i 2 + A.B j 2 by omega] at g2
  refine ⟨s9, ?_, z9, fun q hq => by rw [t9 q hq, t8 q hq, t7 q hq, t6 q hq, ud_n (by omega), t4 q hq, t3 q hq, t2 q hq, t1 q hq]⟩
  clear z1 z2 z3 z4 z5 z6 z7 z8 z9 t1 t2 t3 t4 t6 t7 t8 t9 hl hl4 hl5 hM hMt hW
  obtain ⟨hi1, hi2⟩ := hi
  obtain ⟨hj1, hj2⟩ := hj
  simp (disch := omega) only [nmD, bdS, b2S, lit32, iA, iS, iM, iN, iLt, iLe, iE, zlT, zlF, zleT, zleF, zeT, zeF, RdI, WrI, DvI, jmaxI, jminI, jabsI, bI0, Zb0, Zb1, ZbI, ↓reduceIte, not_true_eq_false, not_false_eq_true, ite_not, and_true, true_and, and_false, false_and, and_self, fX9_doJoin, b1, b2, i3, j3, si, sj, i0, j0, he, i2, j2, r3, k1, g4, k2, g5, k3, k4, k6, k7, k8, k9, g2]
end JM2
