/-! A word, a number, the numbers of a command and its end, on both sides. -/
def vv (tx : Int → Int) (b : Int) : Nat → Int
  | 0 => 0
  | k + 1 => vv tx b k * 10 + tx (b + k) - 48
theorem vv_s (tx : Int → Int) (b : Int) (k : Nat) : vv tx b (k + 1) = vv tx b k * 10 + tx (b + k) - 48 := rfl
theorem Nm_b {i : Nat} (h : i < 7) : 1 ≤ Nm i ∧ Nm i ≤ 4 := by
  rcases i7 h with rfl | rfl | rfl | rfl | rfl | rfl | rfl <;> decide
def nOK (tx : Int → Int) (b c : Int) : Prop := (1 ≤ c - b ∧ c - b ≤ 4) ∧ (c - b = 1 ∨ tx b ≠ 48)
section MW
variable {tx : Int → Int} {L : Int} {T s p a : Nat → Int32} {n : Int32}
theorem mWord (hT : Tx tx L T) (hL : 0 ≤ L ∧ L ≤ 140) {b : Int} (b0 : 0 ≤ b) (bL : b ≤ L) (hsp : RN tx L sp b b) (st : Int32) (w : Int64) (u : Nat → Int32) : ∃ (c : Int) (z' : Int64), RN tx L lt' b c ∧ (∀ i : Nat, i < 7 → c - b ≤ 4 → zz tx b (c - b).toNat = Wd i → fX9_isWord (s, p, a, n, T, iI L, iI b, st, w, u) = some (iI 1, (s, p, a, n, T, iI L, iI c, iI b, lI (Wd i), u))) ∧ ((¬ c - b ≤ 4 ∨ ∀ i : Nat, i < 7 → zz tx b (c - b).toNat ≠ Wd i) → fX9_isWord (s, p, a, n, T, iI L, iI b, st, w, u) = some (iI 0, (s, p, a, n, T, iI L, iI c, iI b, z', u))) := by
  obtain ⟨b', k1, k2⟩ := mSkip (s := s) (p := p) (a := a) (n := n) (st := st) (w := w) (u := u) hT hL b0 bL
  obtain rfl : b' = b := k2.one hsp
  obtain ⟨c, z', f1, f2, f3⟩ := mWordL (s := s) (p := p) (a := a) (n := n) (u := u) hT hL.2 b0 (L - b').toNat FU b' (lI 0) (by omega) (by omega) (by unfold FU; omega) (fun j j0 j1 => by omega) (fun _ => by rw [Int.sub_self]; rfl)
  have fc := f2.1
  have fL := f2.2.1
  have f2c := f2.2.2.1
  refine ⟨c, z', f2, fun i hi h1 h2 => ?_, fun h => ?_⟩
  · have hz := f3 h1
    rw [h2] at hz
    subst hz
    have hm := mMany hi
    have hnb := Nm_b hi
    clear f2 f2c f3 hT hsp k2 h2
    simp (disch := omega) only [nmD, bdS, b2S, lit32, iA, iS, iM, iN, iLt, iLe, iE, zlT, zlF, zleT, zleF, zeT, zeF, RdI, WrI, DvI, jmaxI, jminI, jabsI, bI0, Zb0, Zb1, ZbI, ↓reduceIte, not_true_eq_false, not_false_eq_true, ite_not, and_true, true_and, and_false, false_and, and_self, fX9_isWord, k1, litL, f1, hm, fX9_isWord_j100]
  · by_cases h1 : c - b' ≤ 4
    · have hz := f3 h1
      have hzb := zz_b4 (tx := tx) (b := b') (k := (c - b').toNat) (by omega) (fun j j0 j1 => f2c j j0 (by omega))
      have hm : fX9_manyOf z' = some (iI 0) := by
        rw [hz]
        exact mMany0 hzb.1 hzb.2 (by
          rcases h with h | h
          · exact absurd h1 h
          · exact h)
      clear f2 f2c f3 hT hsp k2 h hz hzb
      simp (disch := omega) only [nmD, bdS, b2S, lit32, iA, iS, iM, iN, iLt, iLe, iE, zlT, zlF, zleT, zleF, zeT, zeF, RdI, WrI, DvI, jmaxI, jminI, jabsI, bI0, Zb0, Zb1, ZbI, ↓reduceIte, not_true_eq_false, not_false_eq_true, ite_not, and_true, true_and, and_false, false_and, and_self, fX9_isWord, k1, litL, f1, hm, fX9_isWord_j100, fX9_isWord_j99]
    · clear f2 f2c f3 hT hsp k2 h
      simp (disch := omega) only [nmD, bdS, b2S, lit32, iA, iS, iM, iN, iLt, iLe, iE, zlT, zlF, zleT, zleF, zeT, zeF, RdI, WrI, DvI, jmaxI, jminI, jabsI, bI0, Zb0, Zb1, ZbI, ↓reduceIte, not_true_eq_false, not_false_eq_true, ite_not, and_true, true_and, and_false, false_and, and_self, fX9_isWord, k1, litL, f1, fX9_isWord_j100, fX9_isWord_j99]
theorem mNumL (hT : Tx tx L T) (hL : L ≤ 140) {b : Int} (b0 : 0 ≤ b) (x1 : Int32) {w : Int64} {u : Nat → Int32} : ∀ (k fu : Nat) (e v : Int), b ≤ e → e + k = L → k < fu → (e - b ≤ 4 → v = vv tx b (e - b).toNat) → ∃ c v' : Int, (∀ kk : Md → Int32 → Option (Int32 × Md), fX9_isNumber_l6 x1 kk fu (s, p, a, n, T, iI L, iI e, iI b, w, u) (iI v) = kk (s, p, a, n, T, iI L, iI c, iI b, w, u) (iI v')) ∧ RN tx L dg e c ∧ (c - b ≤ 4 → v' = vv tx b (c - b).toNat) := by
  intro k
  induction k with
  | zero =>
    intro fu e v h0 h1 h2 h4
    obtain ⟨fu, rfl⟩ : ∃ q, fu = q + 1 := ⟨fu - 1, by omega⟩
    refine ⟨e, v, fun kk => ?_, RN.nil (by omega) (fun q => by omega), h4⟩
    have ha := mAt (s := s) (p := p) (a := a) (n := n) (st := iI b) (w := w) (u := u) hT hL (e := e) (x := 48) (y := 57) (by omega) (by omega) (by omega) (by omega)
    rw [bIf (fun q => by omega)] at ha
    clear hT h4
    rw [fX9_isNumber_l6_s]
    simp (disch := omega) only [nmD, bdS, b2S, lit32, iA, iS, iM, iN, iLt, iLe, iE, zlT, zlF, zleT, zleF, zeT, zeF, RdI, WrI, DvI, jmaxI, jminI, jabsI, bI0, Zb0, Zb1, ZbI, ↓reduceIte, not_true_eq_false, not_false_eq_true, ite_not, and_true, true_and, and_false, false_and, and_self, ha]
  | succ k ih =>
    intro fu e v h0 h1 h2 h4
    obtain ⟨fu, rfl⟩ : ∃ q, fu = q + 1 := ⟨fu - 1, by omega⟩
    have ha := mAt (s := s) (p := p) (a := a) (n := n) (st := iI b) (w := w) (u := u) hT hL (e := e) (x := 48) (y := 57) (by omega) (by omega) (by omega) (by omega)
    by_cases c : dg (tx e)
    · rw [bIt ⟨by omega, c⟩] at ha
      by_cases d : e - b < 4
      · have hz := h4 (by omega)
        have he := (hT e (by omega) (by omega)).2
        have hzs : vv tx b (e + 1 - b).toNat = vv tx b (e - b).toNat * 10 + tx e - 48 := by
          rw [show (e + 1 - b).toNat = (e - b).toNat + 1 by omega, vv_s, show b + ((e - b).toNat : Int) = e by omega]
        obtain ⟨c', v', f1, f2, f3⟩ := ih fu (e + 1) (10 * v + tx e - 48) (by omega) (by omega) (by omega) (fun _ => by rw [hzs, ← hz]; omega)
        refine ⟨c', v', fun kk => ?_, RN.cons (by omega) c f2, f3⟩
        rw [fX9_isNumber_l6_s, ← f1 kk]
        clear ih f1 f2 f3 hT h4 c hzs hz
        simp (disch := omega) only [nmD, bdS, b2S, lit32, iA, iS, iM, iN, iLt, iLe, iE, zlT, zlF, zleT, zleF, zeT, zeF, RdI, WrI, DvI, jmaxI, jminI, jabsI, bI0, Zb0, Zb1, ZbI, ↓reduceIte, not_true_eq_false, not_false_eq_true, ite_not, and_true, true_and, and_false, false_and, and_self, ha, he, fX9_isNumber_j51]
      · obtain ⟨c', v', f1, f2, f3⟩ := ih fu (e + 1) v (by omega) (by omega) (by omega) (fun q => by omega)
        refine ⟨c', v', fun kk => ?_, RN.cons (by omega) c f2, f3⟩
        rw [fX9_isNumber_l6_s, ← f1 kk]
        clear ih f1 f2 f3 hT h4 c
        simp (disch := omega) only [nmD, bdS, b2S, lit32, iA, iS, iM, iN, iLt, iLe, iE, zlT, zlF, zleT, zleF, zeT, zeF, RdI, WrI, DvI, jmaxI, jminI, jabsI, bI0, Zb0, Zb1, ZbI, ↓reduceIte, not_true_eq_false, not_false_eq_true, ite_not, and_true, true_and, and_false, false_and, and_self, ha, fX9_isNumber_j51]
    · rw [bIf (fun q => c q.2)] at ha
      refine ⟨e, v, fun kk => ?_, RN.nil (by omega) (fun _ => c), h4⟩
      rw [fX9_isNumber_l6_s]
      clear ih hT h4
      simp (disch := omega) only [nmD, bdS, b2S, lit32, iA, iS, iM, iN, iLt, iLe, iE, zlT, zlF, zleT, zleF, zeT, zeF, RdI, WrI, DvI, jmaxI, jminI, jabsI, bI0, Zb0, Zb1, ZbI, ↓reduceIte, not_true_eq_false, not_false_eq_true, ite_not, and_true, true_and, and_false, false_and, and_self, ha]
theorem mNum (hT : Tx tx L T) (hL : 0 ≤ L ∧ L ≤ 140) {e k : Int} (e0 : 0 ≤ e) (eL : e ≤ L) (hk : 0 ≤ k ∧ k < 4) (st : Int32) (w : Int64) (u : Nat → Int32) : ∃ b c v' : Int, RN tx L sp e b ∧ RN tx L dg b c ∧ (c - b ≤ 4 → v' = vv tx b (c - b).toNat) ∧ (nOK tx b c → fX9_isNumber (s, p, a, n, T, iI L, iI e, st, w, u) (iI k) = some (iI 1, (s, p, a, n, T, iI L, iI c, iI b, w, upd u k.toNat (iI v')))) ∧ (¬ nOK tx b c → fX9_isNumber (s, p, a, n, T, iI L, iI e, st, w, u) (iI k) = some (iI 0, (s, p, a, n, T, iI L, iI c, iI b, w, upd u k.toNat (iI v')))) := by
  obtain ⟨b, k1, k2⟩ := mSkip (s := s) (p := p) (a := a) (n := n) (st := st) (w := w) (u := u) hT hL e0 eL
  have kb := k2.1
  have kL := k2.2.1
  obtain ⟨c, v', f1, f2, f3⟩ := mNumL (s := s) (p := p) (a := a) (n := n) (w := w) (u := u) hT hL.2 (show 0 ≤ b by omega) (iI k) (L - b).toNat FU b 0 (by omega) (by omega) (by unfold FU; omega) (fun _ => by rw [Int.sub_self]; rfl)
  have fc := f2.1
  have fL := f2.2.1
  have hb : b < L → (1 ≤ tx b ∧ tx b ≤ 255) ∧ T b.toNat = iI (tx b) := fun h => ⟨(hT b (by omega) h).1, (hT b (by omega) h).2⟩
  obtain ⟨hk1, hk2⟩ := hk
  refine ⟨b, c, v', k2, f2, f3, fun h => ?_, fun h => ?_⟩
  · obtain ⟨⟨h1, h2⟩, h3⟩ := h
    obtain ⟨hb1, hb2⟩ := hb (by omega)
    clear f2 f3 hT k2 hb
    by_cases q : c - b = 1
    · clear h3
      simp (disch := omega) only [nmD, bdS, b2S, lit32, iA, iS, iM, iN, iLt, iLe, iE, zlT, zlF, zleT, zleF, zeT, zeF, RdI, WrI, DvI, jmaxI, jminI, jabsI, bI0, Zb0, Zb1, ZbI, ↓reduceIte, not_true_eq_false, not_false_eq_true, ite_not, and_true, true_and, and_false, false_and, and_self, fX9_isNumber, k1, f1, mIn, fX9_isNumber_j121, fX9_isNumber_j116]
    · have h3 : tx b ≠ 48 := by omega
      simp (disch := omega) only [nmD, bdS, b2S, lit32, iA, iS, iM, iN, iLt, iLe, iE, zlT, zlF, zleT, zleF, zeT, zeF, RdI, WrI, DvI, jmaxI, jminI, jabsI, bI0, Zb0, Zb1, ZbI, ↓reduceIte, not_true_eq_false, not_false_eq_true, ite_not, and_true, true_and, and_false, false_and, and_self, fX9_isNumber, k1, f1, mIn, fX9_isNumber_j121, fX9_isNumber_j116, hb2]
  · by_cases h1 : 1 ≤ c - b ∧ c - b ≤ 4
    · have h2 : c - b ≠ 1 ∧ tx b = 48 := by
        unfold nOK at h
        omega
      obtain ⟨h2a, h2b⟩ := h2
      obtain ⟨h1a, h1b⟩ := h1
      obtain ⟨hb1, hb2⟩ := hb (by omega)
      rw [h2b] at hb2
      clear f2 f3 hT k2 hb h
      simp (disch := omega) only [nmD, bdS, b2S, lit32, iA, iS, iM, iN, iLt, iLe, iE, zlT, zlF, zleT, zleF, zeT, zeF, RdI, WrI, DvI, jmaxI, jminI, jabsI, bI0, Zb0, Zb1, ZbI, ↓reduceIte, not_true_eq_false, not_false_eq_true, ite_not, and_true, true_and, and_false, false_and, and_self, fX9_isNumber, k1, f1, mIn, fX9_isNumber_j121, fX9_isNumber_j116, fX9_isNumber_j120, hb2]
    · clear f2 f3 hT k2 hb h
      simp (disch := omega) only [nmD, bdS, b2S, lit32, iA, iS, iM, iN, iLt, iLe, iE, zlT, zlF, zleT, zleF, zeT, zeF, RdI, WrI, DvI, jmaxI, jminI, jabsI, bI0, Zb0, Zb1, ZbI, ↓reduceIte, not_true_eq_false, not_false_eq_true, ite_not, and_true, true_and, and_false, false_and, and_self, fX9_isNumber, k1, f1, mIn, h1, fX9_isNumber_j121, fX9_isNumber_j120]
end MW
section XW
variable {tx : Int → Int} {L : Int} {t u : Nat → Int32}
theorem xVal (hT : Tx tx L t) (hL : L ≤ 140) {b c : Int} {kd st : Int32} (b0 : 0 ≤ b) (hc : c ≤ L) : ∀ (k fu : Nat) (e : Int), b ≤ e → e + k = c → k < fu → fX3_numberValue_l7 (t, u, iI L, kd, st, iI c) fu (iI (vv tx b (e - b).toNat)) (iI e) = some (iI (vv tx b (c - b).toNat)) := by
  intro k
  induction k with
  | zero =>
    intro fu e h0 h1 h2
    obtain ⟨fu, rfl⟩ : ∃ q, fu = q + 1 := ⟨fu - 1, by omega⟩
    obtain rfl : e = c := by omega
    clear hT
    rw [fX3_numberValue_l7_s]
    simp (disch := omega) only [nmD, bdS, b2S, lit32, iA, iS, iM, iN, iLt, iLe, iE, zlT, zlF, zleT, zleF, zeT, zeF, RdI, WrI, DvI, jmaxI, jminI, jabsI, bI0, Zb0, Zb1, ZbI, ↓reduceIte, not_true_eq_false, not_false_eq_true, ite_not, and_true, true_and, and_false, false_and, and_self]
  | succ k ih =>
    intro fu e h0 h1 h2
    obtain ⟨fu, rfl⟩ : ∃ q, fu = q + 1 := ⟨fu - 1, by omega⟩
    have hs := fun P' => xSign hT hL (P' := P') (show 0 ≤ e by omega) (show e < L by omega)
    have hzs : vv tx b (e + 1 - b).toNat = vv tx b (e - b).toNat * 10 + tx e - 48 := by
      rw [show (e + 1 - b).toNat = (e - b).toNat + 1 by omega, vv_s, show b + ((e - b).toNat : Int) = e by omega]
    have f1 := ih fu (e + 1) (by omega) (by omega) (by omega)
    rw [hzs] at f1
    rw [fX3_numberValue_l7_s, ← f1]
    clear ih f1 hT
    simp (disch := omega) only [nmD, bdS, b2S, lit32, iA, iS, iM, iN, iLt, iLe, iE, zlT, zlF, zleT, zleF, zeT, zeF, RdI, WrI, DvI, jmaxI, jminI, jabsI, bI0, Zb0, Zb1, ZbI, ↓reduceIte, not_true_eq_false, not_false_eq_true, ite_not, and_true, true_and, and_false, false_and, and_self, hs]
theorem xNumOK (hT : Tx tx L t) (hL : L ≤ 140) {b c : Int} (b0 : 0 ≤ b) (bL : b < L) (bc : b + 1 ≤ c) (hc : c ≤ L) : (nOK tx b c → fX3_isNumber (t, u, iI L, iI 2, iI b, iI c) = some (iI 1)) ∧ (¬ nOK tx b c → fX3_isNumber (t, u, iI L, iI 2, iI b, iI c) = some (iI 0)) := by
  have hs := fun P' => xSign hT hL (P' := P') b0 bL
  have hb := (hT b b0 bL).1
  clear hT
  refine ⟨fun h => ?_, fun h => ?_⟩
  · obtain ⟨⟨h1, h2⟩, h3⟩ := h
    by_cases q : c - b = 1
    · clear h3
      simp (disch := omega) only [nmD, bdS, b2S, lit32, iA, iS, iM, iN, iLt, iLe, iE, zlT, zlF, zleT, zleF, zeT, zeF, RdI, WrI, DvI, jmaxI, jminI, jabsI, bI0, Zb0, Zb1, ZbI, ↓reduceIte, not_true_eq_false, not_false_eq_true, ite_not, and_true, true_and, and_false, false_and, and_self, fX3_isNumber, fX3_isNumber_j46, fX3_isNumber_j41]
    · have h3 : tx b ≠ 48 := by omega
      simp (disch := omega) only [nmD, bdS, b2S, lit32, iA, iS, iM, iN, iLt, iLe, iE, zlT, zlF, zleT, zleF, zeT, zeF, RdI, WrI, DvI, jmaxI, jminI, jabsI, bI0, Zb0, Zb1, ZbI, ↓reduceIte, not_true_eq_false, not_false_eq_true, ite_not, and_true, true_and, and_false, false_and, and_self, fX3_isNumber, fX3_isNumber_j46, fX3_isNumber_j41, hs]
  · by_cases h1 : c - b ≤ 4
    · have h2 : c - b ≠ 1 ∧ tx b = 48 := by
        unfold nOK at h
        omega
      obtain ⟨h2a, h2b⟩ := h2
      rw [h2b] at hs
      simp (disch := omega) only [nmD, bdS, b2S, lit32, iA, iS, iM, iN, iLt, iLe, iE, zlT, zlF, zleT, zleF, zeT, zeF, RdI, WrI, DvI, jmaxI, jminI, jabsI, bI0, Zb0, Zb1, ZbI, ↓reduceIte, not_true_eq_false, not_false_eq_true, ite_not, and_true, true_and, and_false, false_and, and_self, fX3_isNumber, fX3_isNumber_j46, fX3_isNumber_j45, hs]
    · simp (disch := omega) only [nmD, bdS, b2S, lit32, iA, iS, iM, iN, iLt, iLe, iE, zlT, zlF, zleT, zleF, zeT, zeF, RdI, WrI, DvI, jmaxI, jminI, jabsI, bI0, Zb0, Zb1, ZbI, ↓reduceIte, not_true_eq_false, not_false_eq_true, ite_not, and_true, true_and, and_false, false_and, and_self, fX3_isNumber, fX3_isNumber_j46, fX3_isNumber_j45]
theorem xNumNo {b c k : Int} (hk : k = 0 ∨ k = 1 ∨ k = 3) : fX3_isNumber (t, u, iI L, iI k, iI b, iI c) = some (iI 0) := by
  rcases hk with rfl | rfl | rfl
  · simp (disch := omega) only [nmD, bdS, b2S, lit32, iA, iS, iM, iN, iLt, iLe, iE, zlT, zlF, zleT, zleF, zeT, zeF, RdI, WrI, DvI, jmaxI, jminI, jabsI, bI0, Zb0, Zb1, ZbI, ↓reduceIte, not_true_eq_false, not_false_eq_true, ite_not, and_true, true_and, and_false, false_and, and_self, fX3_isNumber, fX3_isNumber_j46, fX3_isNumber_j45]
  · simp (disch := omega) only [nmD, bdS, b2S, lit32, iA, iS, iM, iN, iLt, iLe, iE, zlT, zlF, zleT, zleF, zeT, zeF, RdI, WrI, DvI, jmaxI, jminI, jabsI, bI0, Zb0, Zb1, ZbI, ↓reduceIte, not_true_eq_false, not_false_eq_true, ite_not, and_true, true_and, and_false, false_and, and_self, fX3_isNumber, fX3_isNumber_j46, fX3_isNumber_j45]
  · simp (disch := omega) only [nmD, bdS, b2S, lit32, iA, iS, iM, iN, iLt, iLe, iE, zlT, zlF, zleT, zleF, zeT, zeF, RdI, WrI, DvI, jmaxI, jminI, jabsI, bI0, Zb0, Zb1, ZbI, ↓reduceIte, not_true_eq_false, not_false_eq_true, ite_not, and_true, true_and, and_false, false_and, and_self, fX3_isNumber, fX3_isNumber_j46, fX3_isNumber_j45]
end XW
section BN
variable {tx : Int → Int} {L : Int} {t T s p a : Nat → Int32} {n : Int32}
/-- a number -/
theorem numBoth (ht : Tx tx L t) (hT : Tx tx L T) (hL : 0 ≤ L ∧ L ≤ 140) {e k : Int} (e0 : 0 ≤ e) (eL : e ≤ L) (hk : 0 ≤ k ∧ k < 4) (u1 u2 : Nat → Int32) (k0 st st2 : Int32) (w : Int64) : ∃ b c d v q : Int, e ≤ b ∧ b ≤ c ∧ c ≤ L ∧ fX3_readToken (t, u1, iI L, k0, st, iI e) = some (t, u1, iI L, iI q, iI b, iI d) ∧ ((d = c ∧ fX3_isNumber (t, u1, iI L, iI q, iI b, iI d) = some (iI 1) ∧ fX3_numberValue (t, u1, iI L, iI q, iI b, iI d) = some (iI v) ∧ fX9_isNumber (s, p, a, n, T, iI L, iI e, st2, w, u2) (iI k) = some (iI 1, (s, p, a, n, T, iI L, iI c, iI b, w, upd u2 k.toNat (iI v)))) ∨ (fX3_isNumber (t, u1, iI L, iI q, iI b, iI d) = some (iI 0) ∧ fX9_isNumber (s, p, a, n, T, iI L, iI e, st2, w, u2) (iI k) = some (iI 0, (s, p, a, n, T, iI L, iI c, iI b, w, upd u2 k.toNat (iI v))))) := by
  obtain ⟨b, d, q, x1, x2, x3, x4, x5⟩ := xTok (u := u1) ht hL e0 eL k0 st
  obtain ⟨b', c, v, m1, m2, m3, m4, m5⟩ := mNum (s := s) (p := p) (a := a) (n := n) hT hL e0 eL hk st2 w u2
  obtain rfl : b' = b := m1.one x2
  have hb0 := m1.1
  have hbc := m2.1
  have hcL := m2.2.1
  refine ⟨b', c, d, v, q, hb0, hbc, hcL, x1, ?_⟩
  have no : (b' < L → ¬ dg (tx b')) → (q = 0 ∨ q = 1 ∨ q = 3) → (fX3_isNumber (t, u1, iI L, iI q, iI b', iI d) = some (iI 0) ∧ fX9_isNumber (s, p, a, n, T, iI L, iI e, st2, w, u2) (iI k) = some (iI 0, (s, p, a, n, T, iI L, iI c, iI b', w, upd u2 k.toNat (iI v)))) := fun h1 h2 => by
    have hcb : c = b' := m2.one (RN.nil (by omega) h1)
    exact ⟨xNumNo h2, m5 (fun z => by unfold nOK at z; omega)⟩
  rcases x3 with ⟨y1, y2, y3⟩ | ⟨y1, y2, ⟨z1, z2, z3⟩ | ⟨z1, z2, z3⟩ | ⟨z1, z2, z3, z4⟩⟩
  · exact Or.inr (no (fun z => by omega) (by omega))
  · exact Or.inr (no (fun _ z => by unfold lt' at z1; unfold dg at z; omega) (by omega))
  · obtain rfl : d = c := z3.one m2
    have hp := m2.pos y1 z1
    have hx := xNumOK (u := u1) ht hL.2 (show 0 ≤ b' by omega) y1 hp hcL
    subst z2
    by_cases g : nOK tx b' d
    · have hv := m3 g.1.2
      have e1 := xVal (u := u1) (kd := iI 2) (st := iI b') ht hL.2 (show 0 ≤ b' by omega) hcL (d - b').toNat FU b' (by omega) (by omega) (by unfold FU; omega)
      rw [← hv, Int.sub_self, show vv tx b' (0 : Int).toNat = 0 from rfl] at e1
      refine Or.inl ⟨rfl, hx.1 g, ?_, m4 g⟩
      unfold fX3_numberValue
      rw [nmD, show (0 : Int32) = iI 0 from rfl]
      exact e1
    · exact Or.inr ⟨hx.2 g, m5 g⟩
  · exact Or.inr (no (fun _ => z2) (by omega))
/-- the sign that ends a command -/
theorem stopBoth (ht : Tx tx L t) (hT : Tx tx L T) (hL : 0 ≤ L ∧ L ≤ 140) {e : Int} (e0 : 0 ≤ e) (eL : e ≤ L) (u1 u2 : Nat → Int32) (k0 st st2 : Int32) (w : Int64) : ∃ b d q : Int, e ≤ b ∧ b ≤ L ∧ fX3_readToken (t, u1, iI L, k0, st, iI e) = some (t, u1, iI L, iI q, iI b, iI d) ∧ ((b < L ∧ d = b + 1 ∧ fX3_isSemicolon (t, u1, iI L, iI q, iI b, iI d) = some (iI 1) ∧ fX9_isStop (s, p, a, n, T, iI L, iI e, st2, w, u2) = some (iI 1, (s, p, a, n, T, iI L, iI d, iI b, w, u2))) ∨ (fX3_isSemicolon (t, u1, iI L, iI q, iI b, iI d) = some (iI 0) ∧ fX9_isStop (s, p, a, n, T, iI L, iI e, st2, w, u2) = some (iI 0, (s, p, a, n, T, iI L, iI b, iI b, w, u2)))) := by
  obtain ⟨b, d, q, x1, x2, x3, x4, x5⟩ := xTok (u := u1) ht hL e0 eL k0 st
  obtain ⟨b', m1, m2⟩ := mSkip (s := s) (p := p) (a := a) (n := n) (st := st2) (w := w) (u := u2) hT hL e0 eL
  obtain rfl : b' = b := m2.one x2
  have hb0 := m2.1
  have hbL := m2.2.1
  have ha := mAt (s := s) (p := p) (a := a) (n := n) (st := iI b') (w := w) (u := u2) hT hL.2 (e := b') (x := 59) (y := 59) (by omega) (by omega) (by omega) (by omega)
  refine ⟨b', d, q, hb0, hbL, x1, ?_⟩
  by_cases c : b' < L ∧ tx b' = 59
  · rw [bIt (by omega)] at ha
    obtain ⟨c1, c2⟩ := c
    have hs := fun P' => xSign ht hL.2 (P' := P') (show 0 ≤ b' by omega) c1
    have hq : q = 3 ∧ d = b' + 1 := by
      rcases x3 with ⟨y1, y2, y3⟩ | ⟨y1, y2, ⟨z1, z2, z3⟩ | ⟨z1, z2, z3⟩ | ⟨z1, z2, z3, z4⟩⟩
      · omega
      · unfold lt' at z1; omega
      · unfold dg at z1; omega
      · exact ⟨z3, z4⟩
    obtain ⟨rfl, rfl⟩ := hq
    rw [c2] at hs
    refine Or.inl ⟨c1, rfl, ?_, ?_⟩
    · clear ht hT x2 x3 m2
      simp (disch := omega) only [nmD, bdS, b2S, lit32, iA, iS, iM, iN, iLt, iLe, iE, zlT, zlF, zleT, zleF, zeT, zeF, RdI, WrI, DvI, jmaxI, jminI, jabsI, bI0, Zb0, Zb1, ZbI, ↓reduceIte, not_true_eq_false, not_false_eq_true, ite_not, and_true, true_and, and_false, false_and, and_self, fX3_isSemicolon, hs, fX3_isSemicolon_j26]
    · clear ht hT x2 x3 m2
      simp (disch := omega) only [nmD, bdS, b2S, lit32, iA, iS, iM, iN, iLt, iLe, iE, zlT, zlF, zleT, zleF, zeT, zeF, RdI, WrI, DvI, jmaxI, jminI, jabsI, bI0, Zb0, Zb1, ZbI, ↓reduceIte, not_true_eq_false, not_false_eq_true, ite_not, and_true, true_and, and_false, false_and, and_self, fX9_isStop, m1, ha, fX9_isStop_j27]
  · rw [bIf (fun z => c ⟨z.1, by omega⟩)] at ha
    refine Or.inr ⟨?_, ?_⟩
    · rcases x3 with ⟨y1, y2, y3⟩ | ⟨y1, y2, ⟨z1, z2, z3⟩ | ⟨z1, z2, z3⟩ | ⟨z1, z2, z3, z4⟩⟩
      · subst y2
        clear ht hT x2 m2
        simp (disch := omega) only [nmD, bdS, b2S, lit32, iA, iS, iM, iN, iLt, iLe, iE, zlT, zlF, zleT, zleF, zeT, zeF, RdI, WrI, DvI, jmaxI, jminI, jabsI, bI0, Zb0, Zb1, ZbI, ↓reduceIte, not_true_eq_false, not_false_eq_true, ite_not, and_true, true_and, and_false, false_and, and_self, fX3_isSemicolon, fX3_isSemicolon_j26, fX3_isSemicolon_j25]
      · subst z2
        clear ht hT x2 m2 z3
        simp (disch := omega) only [nmD, bdS, b2S, lit32, iA, iS, iM, iN, iLt, iLe, iE, zlT, zlF, zleT, zleF, zeT, zeF, RdI, WrI, DvI, jmaxI, jminI, jabsI, bI0, Zb0, Zb1, ZbI, ↓reduceIte, not_true_eq_false, not_false_eq_true, ite_not, and_true, true_and, and_false, false_and, and_self, fX3_isSemicolon, fX3_isSemicolon_j26, fX3_isSemicolon_j25]
      · subst z2
        clear ht hT x2 m2 z3
        simp (disch := omega) only [nmD, bdS, b2S, lit32, iA, iS, iM, iN, iLt, iLe, iE, zlT, zlF, zleT, zleF, zeT, zeF, RdI, WrI, DvI, jmaxI, jminI, jabsI, bI0, Zb0, Zb1, ZbI, ↓reduceIte, not_true_eq_false, not_false_eq_true, ite_not, and_true, true_and, and_false, false_and, and_self, fX3_isSemicolon, fX3_isSemicolon_j26, fX3_isSemicolon_j25]
      · subst z3
        have hs := fun P' => xSign ht hL.2 (P' := P') (show 0 ≤ b' by omega) y1
        have hbb := (ht b' (by omega) y1).1
        have c2 : tx b' ≠ 59 := fun z => c ⟨y1, z⟩
        clear ht hT x2 m2 c
        simp (disch := omega) only [nmD, bdS, b2S, lit32, iA, iS, iM, iN, iLt, iLe, iE, zlT, zlF, zleT, zleF, zeT, zeF, RdI, WrI, DvI, jmaxI, jminI, jabsI, bI0, Zb0, Zb1, ZbI, ↓reduceIte, not_true_eq_false, not_false_eq_true, ite_not, and_true, true_and, and_false, false_and, and_self, fX3_isSemicolon, hs, fX3_isSemicolon_j26, fX3_isSemicolon_j25]
    · clear ht hT x2 x3 m2
      simp (disch := omega) only [nmD, bdS, b2S, lit32, iA, iS, iM, iN, iLt, iLe, iE, zlT, zlF, zleT, zleF, zeT, zeF, RdI, WrI, DvI, jmaxI, jminI, jabsI, bI0, Zb0, Zb1, ZbI, ↓reduceIte, not_true_eq_false, not_false_eq_true, ite_not, and_true, true_and, and_false, false_and, and_self, fX9_isStop, m1, ha, fX9_isStop_j27, Int.add_zero]
end BN
