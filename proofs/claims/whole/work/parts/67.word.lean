/-! Words of commands. -/
abbrev lI (z : Int) : Int64 := Int64.ofInt z
theorem litL (n : Nat) : (no_index (OfNat.ofNat n : Int64)) = lI (OfNat.ofNat n) := (Int64.ofInt_eq_ofNat (n := n)).symm
theorem lT {a : Int} (h1 : 0 ≤ a) (h2 : a < 1099511627776) : (lI a).toInt = a := Int64.toInt_ofInt_of_le (by omega) (by omega)
theorem lg0 {z c : Int} (h1 : 0 ≤ z) (h2 : z < 1099511627776) (h3 : 0 ≤ c) (h4 : c < 1099511627776) : (lg_cmp (lI z) (lI c) = iI 0) ↔ z = c := by
  unfold lg_cmp
  by_cases e : z = c
  · subst e
    have hn : ¬ lI z > lI z := fun q => by
      have q : lI z < lI z := q
      rw [Int64.lt_iff_toInt_lt] at q
      omega
    rw [if_neg hn, if_pos rfl]
    exact ⟨fun _ => rfl, fun _ => rfl⟩
  · have hne : lI z ≠ lI c := fun q => e (by
      have := congrArg Int64.toInt q
      rwa [lT h1 h2, lT h3 h4] at this)
    by_cases g : lI z > lI c
    · rw [if_pos g]
      exact ⟨fun q => absurd q (by decide), fun q => absurd q e⟩
    · rw [if_neg g, if_neg hne]
      exact ⟨fun q => absurd q (by decide), fun q => absurd q e⟩
theorem lShl {z v : Int} (h1 : 0 ≤ z) (h2 : z < 4294967296) (h3 : 0 ≤ v) (h4 : v < 256) : (lI z <<< ((8 : Int32).toInt64 &&& 63)) ||| (iI v).toInt64 = lI (z * 256 + v) := by
  obtain ⟨n, rfl⟩ := Int.eq_ofNat_of_zero_le h1
  obtain ⟨m, rfl⟩ := Int.eq_ofNat_of_zero_le h3
  have hn : n < 4294967296 := by omega
  have hm : m < 256 := by omega
  have e8 : ((((8 : Int32).toInt64 &&& 63 : Int64)).toBitVec.smod 64) = 8#64 := by decide
  have ev : (iI (m : Int)).toInt64 = lI (m : Int) := by
    rw [← Int64.toInt_inj, Int32.toInt_toInt64, iT (by omega) (by omega), lT (by omega) (by omega)]
  have e3 : ((n : Int) * 256 + m) = ((n * 256 + m : Nat) : Int) := by omega
  rw [ev, e3]
  apply Int64.toBitVec.inj
  rw [Int64.toBitVec_or, Int64.toBitVec_shiftLeft, e8, Int64.toBitVec_ofInt, Int64.toBitVec_ofInt, Int64.toBitVec_ofInt, BitVec.ofInt_natCast, BitVec.ofInt_natCast, BitVec.ofInt_natCast]
  apply BitVec.eq_of_toNat_eq
  have s1 : (BitVec.ofNat 64 n <<< (8#64)).toNat = n <<< 8 := by
    show (BitVec.ofNat 64 n <<< 8).toNat = n <<< 8
    rw [BitVec.toNat_shiftLeft, BitVec.toNat_ofNat, Nat.mod_eq_of_lt (show n < 2 ^ 64 by omega), Nat.shiftLeft_eq, Nat.mod_eq_of_lt (show n * 2 ^ 8 < 2 ^ 64 by omega)]
  rw [BitVec.toNat_or, s1, BitVec.toNat_ofNat, BitVec.toNat_ofNat, Nat.mod_eq_of_lt (show m < 2 ^ 64 by omega), Nat.mod_eq_of_lt (show n * 256 + m < 2 ^ 64 by omega), ← Nat.shiftLeft_add_eq_or_of_lt (i := 8) (show m < 2 ^ 8 by omega), Nat.shiftLeft_eq]
/-- the value of the word of k letters from b on -/
def zz (tx : Int → Int) (b : Int) : Nat → Int
  | 0 => 0
  | k + 1 => zz tx b k * 256 + tx (b + k)
theorem zz_s (tx : Int → Int) (b : Int) (k : Nat) : zz tx b (k + 1) = zz tx b k * 256 + tx (b + k) := rfl
theorem zz_b {tx : Int → Int} {b : Int} : ∀ k : Nat, (∀ j : Int, b ≤ j → j < b + k → lt' (tx j)) → 0 ≤ zz tx b k ∧ zz tx b k < 256 ^ k
  | 0, _ => by
    show (0 : Int) ≤ 0 ∧ (0 : Int) < 256 ^ 0
    rw [Int.pow_zero]
    omega
  | k + 1, h => by
    have h1 := zz_b k (fun j j0 j1 => h j j0 (by omega))
    have h2 := h (b + k) (by omega) (by omega)
    unfold lt' at h2
    rw [zz_s, Int.pow_succ]
    omega
theorem zz_b4 {tx : Int → Int} {b : Int} {k : Nat} (hk : k ≤ 4) (h : ∀ j : Int, b ≤ j → j < b + k → lt' (tx j)) : 0 ≤ zz tx b k ∧ zz tx b k < 4294967296 := by
  have h1 := zz_b k h
  have e0 : (256 : Int) ^ 0 = 1 := by decide
  have e1 : (256 : Int) ^ 1 = 256 := by decide
  have e2 : (256 : Int) ^ 2 = 65536 := by decide
  have e3 : (256 : Int) ^ 3 = 16777216 := by decide
  have e4 : (256 : Int) ^ 4 = 4294967296 := by decide
  rcases (show k = 0 ∨ k = 1 ∨ k = 2 ∨ k = 3 ∨ k = 4 by omega) with rfl | rfl | rfl | rfl | rfl
  · rw [e0] at h1; omega
  · rw [e1] at h1; omega
  · rw [e2] at h1; omega
  · rw [e3] at h1; omega
  · rw [e4] at h1; omega
section WM
variable {tx : Int → Int} {L : Int} {T s p a u : Nat → Int32} {n : Int32}
theorem mWordL (hT : Tx tx L T) (hL : L ≤ 140) {b : Int} (b0 : 0 ≤ b) : ∀ (k fu : Nat) (e : Int) (z : Int64), b ≤ e → e + k = L → k < fu → (∀ j : Int, b ≤ j → j < e → lt' (tx j)) → (e - b ≤ 4 → z = lI (zz tx b (e - b).toNat)) → ∃ (c : Int) (z' : Int64), (∀ kk : Md → Option (Int32 × Md), fX9_isWord_l9 kk fu (s, p, a, n, T, iI L, iI e, iI b, z, u) = kk (s, p, a, n, T, iI L, iI c, iI b, z', u)) ∧ RN tx L lt' e c ∧ (c - b ≤ 4 → z' = lI (zz tx b (c - b).toNat)) := by
  intro k
  induction k with
  | zero =>
    intro fu e z h0 h1 h2 h3 h4
    obtain ⟨fu, rfl⟩ : ∃ q, fu = q + 1 := ⟨fu - 1, by omega⟩
    refine ⟨e, z, fun kk => ?_, RN.nil (by omega) (fun q => by omega), h4⟩
    have ha := mAt (s := s) (p := p) (a := a) (n := n) (st := iI b) (w := z) (u := u) hT hL (e := e) (x := 97) (y := 122) (by omega) (by omega) (by omega) (by omega)
    rw [bIf (fun q => by omega)] at ha
    clear hT h3 h4
    rw [fX9_isWord_l9_s]
    simp (disch := omega) only [nmD, bdS, b2S, lit32, iA, iS, iM, iN, iLt, iLe, iE, zlT, zlF, zleT, zleF, zeT, zeF, RdI, WrI, DvI, jmaxI, jminI, jabsI, bI0, Zb0, Zb1, ZbI, ↓reduceIte, not_true_eq_false, not_false_eq_true, ite_not, and_true, true_and, and_false, false_and, and_self, ha]
  | succ k ih =>
    intro fu e z h0 h1 h2 h3 h4
    obtain ⟨fu, rfl⟩ : ∃ q, fu = q + 1 := ⟨fu - 1, by omega⟩
    have ha := mAt (s := s) (p := p) (a := a) (n := n) (st := iI b) (w := z) (u := u) hT hL (e := e) (x := 97) (y := 122) (by omega) (by omega) (by omega) (by omega)
    by_cases c : lt' (tx e)
    · rw [bIt ⟨by omega, c⟩] at ha
      have h3' : ∀ j : Int, b ≤ j → j < e + 1 → lt' (tx j) := fun j j0 j1 => by
        by_cases q : j = e
        · rw [q]; exact c
        · exact h3 j j0 (by omega)
      by_cases d : e - b < 4
      · have hz := h4 (by omega)
        have hzb := zz_b4 (tx := tx) (b := b) (k := (e - b).toNat) (by omega) (fun j j0 j1 => h3 j j0 (by omega))
        have c2 := c
        unfold lt' at c2
        have he := (hT e (by omega) (by omega)).2
        have hsh := lShl (z := zz tx b (e - b).toNat) (v := tx e) hzb.1 hzb.2 (by omega) (by omega)
        have hzs : zz tx b (e + 1 - b).toNat = zz tx b (e - b).toNat * 256 + tx e := by
          rw [show (e + 1 - b).toNat = (e - b).toNat + 1 by omega, zz_s, show b + ((e - b).toNat : Int) = e by omega]
        obtain ⟨c', z', f1, f2, f3⟩ := ih fu (e + 1) (lI (zz tx b (e - b).toNat * 256 + tx e)) (by omega) (by omega) (by omega) h3' (fun _ => by rw [hzs])
        refine ⟨c', z', fun kk => ?_, RN.cons (by omega) c f2, f3⟩
        rw [fX9_isWord_l9_s, ← f1 kk]
        subst hz
        clear ih f1 f2 f3 hT h3 h4 h3' c hzs hzb
        simp (disch := omega) only [nmD, bdS, b2S, lit32, iA, iS, iM, iN, iLt, iLe, iE, zlT, zlF, zleT, zleF, zeT, zeF, RdI, WrI, DvI, jmaxI, jminI, jabsI, bI0, Zb0, Zb1, ZbI, ↓reduceIte, not_true_eq_false, not_false_eq_true, ite_not, and_true, true_and, and_false, false_and, and_self, ha, he, fX9_isWord_j56]
        rw [← lit32 8, hsh]
      · obtain ⟨c', z', f1, f2, f3⟩ := ih fu (e + 1) 0 (by omega) (by omega) (by omega) h3' (fun q => by omega)
        refine ⟨c', z', fun kk => ?_, RN.cons (by omega) c f2, f3⟩
        rw [fX9_isWord_l9_s, ← f1 kk]
        clear ih f1 f2 f3 hT h3 h4 h3' c
        simp (disch := omega) only [nmD, bdS, b2S, lit32, iA, iS, iM, iN, iLt, iLe, iE, zlT, zlF, zleT, zleF, zeT, zeF, RdI, WrI, DvI, jmaxI, jminI, jabsI, bI0, Zb0, Zb1, ZbI, ↓reduceIte, not_true_eq_false, not_false_eq_true, ite_not, and_true, true_and, and_false, false_and, and_self, ha, fX9_isWord_j56]
    · rw [bIf (fun q => c q.2)] at ha
      refine ⟨e, z, fun kk => ?_, RN.nil (by omega) (fun _ => c), h4⟩
      rw [fX9_isWord_l9_s]
      clear ih hT h3 h4
      simp (disch := omega) only [nmD, bdS, b2S, lit32, iA, iS, iM, iN, iLt, iLe, iE, zlT, zlF, zleT, zleF, zeT, zeF, RdI, WrI, DvI, jmaxI, jminI, jabsI, bI0, Zb0, Zb1, ZbI, ↓reduceIte, not_true_eq_false, not_false_eq_true, ite_not, and_true, true_and, and_false, false_and, and_self, ha]
end WM
def Wd (i : Nat) : Int := [1919905645, 1734960756, 1651470187, 7364985, 1886151033, 1685221232, 1785686382].getD i 0
def Nm (i : Nat) : Int := [4, 1, 3, 4, 4, 1, 2].getD i 0
theorem i7 {i : Nat} (h : i < 7) : i = 0 ∨ i = 1 ∨ i = 2 ∨ i = 3 ∨ i = 4 ∨ i = 5 ∨ i = 6 := by omega
theorem mMany {i : Nat} (h : i < 7) : fX9_manyOf (lI (Wd i)) = some (iI (Nm i)) := by
  rcases i7 h with rfl | rfl | rfl | rfl | rfl | rfl | rfl
  · show fX9_manyOf (lI 1919905645) = some (iI 4)
    simp (disch := omega) only [nmD, bdS, b2S, lit32, iA, iS, iM, iN, iLt, iLe, iE, zlT, zlF, zleT, zleF, zeT, zeF, RdI, WrI, DvI, jmaxI, jminI, jabsI, bI0, Zb0, Zb1, ZbI, ↓reduceIte, not_true_eq_false, not_false_eq_true, ite_not, and_true, true_and, and_false, false_and, and_self, fX9_manyOf, fX9_manyOf_j71, fX9_manyOf_j66, litL, lg0]
  · show fX9_manyOf (lI 1734960756) = some (iI 1)
    simp (disch := omega) only [nmD, bdS, b2S, lit32, iA, iS, iM, iN, iLt, iLe, iE, zlT, zlF, zleT, zleF, zeT, zeF, RdI, WrI, DvI, jmaxI, jminI, jabsI, bI0, Zb0, Zb1, ZbI, ↓reduceIte, not_true_eq_false, not_false_eq_true, ite_not, and_true, true_and, and_false, false_and, and_self, fX9_manyOf, fX9_manyOf_j71, fX9_manyOf_j66, litL, lg0]
  · show fX9_manyOf (lI 1651470187) = some (iI 3)
    simp (disch := omega) only [nmD, bdS, b2S, lit32, iA, iS, iM, iN, iLt, iLe, iE, zlT, zlF, zleT, zleF, zeT, zeF, RdI, WrI, DvI, jmaxI, jminI, jabsI, bI0, Zb0, Zb1, ZbI, ↓reduceIte, not_true_eq_false, not_false_eq_true, ite_not, and_true, true_and, and_false, false_and, and_self, fX9_manyOf, fX9_manyOf_j71, fX9_manyOf_j66, litL, lg0]
  · show fX9_manyOf (lI 7364985) = some (iI 4)
    simp (disch := omega) only [nmD, bdS, b2S, lit32, iA, iS, iM, iN, iLt, iLe, iE, zlT, zlF, zleT, zleF, zeT, zeF, RdI, WrI, DvI, jmaxI, jminI, jabsI, bI0, Zb0, Zb1, ZbI, ↓reduceIte, not_true_eq_false, not_false_eq_true, ite_not, and_true, true_and, and_false, false_and, and_self, fX9_manyOf, fX9_manyOf_j71, fX9_manyOf_j66, litL, lg0]
  · show fX9_manyOf (lI 1886151033) = some (iI 4)
    simp (disch := omega) only [nmD, bdS, b2S, lit32, iA, iS, iM, iN, iLt, iLe, iE, zlT, zlF, zleT, zleF, zeT, zeF, RdI, WrI, DvI, jmaxI, jminI, jabsI, bI0, Zb0, Zb1, ZbI, ↓reduceIte, not_true_eq_false, not_false_eq_true, ite_not, and_true, true_and, and_false, false_and, and_self, fX9_manyOf, fX9_manyOf_j71, fX9_manyOf_j66, litL, lg0]
  · show fX9_manyOf (lI 1685221232) = some (iI 1)
    simp (disch := omega) only [nmD, bdS, b2S, lit32, iA, iS, iM, iN, iLt, iLe, iE, zlT, zlF, zleT, zleF, zeT, zeF, RdI, WrI, DvI, jmaxI, jminI, jabsI, bI0, Zb0, Zb1, ZbI, ↓reduceIte, not_true_eq_false, not_false_eq_true, ite_not, and_true, true_and, and_false, false_and, and_self, fX9_manyOf, fX9_manyOf_j71, fX9_manyOf_j66, litL, lg0]
  · show fX9_manyOf (lI 1785686382) = some (iI 2)
    simp (disch := omega) only [nmD, bdS, b2S, lit32, iA, iS, iM, iN, iLt, iLe, iE, zlT, zlF, zleT, zleF, zeT, zeF, RdI, WrI, DvI, jmaxI, jminI, jabsI, bI0, Zb0, Zb1, ZbI, ↓reduceIte, not_true_eq_false, not_false_eq_true, ite_not, and_true, true_and, and_false, false_and, and_self, fX9_manyOf, fX9_manyOf_j71, fX9_manyOf_j66, litL, lg0]
theorem mMany0 {z : Int} (h1 : 0 ≤ z) (h2 : z < 4294967296) (h : ∀ i : Nat, i < 7 → z ≠ Wd i) : fX9_manyOf (lI z) = some (iI 0) := by
  have g0 : z ≠ 1919905645 := h 0 (by omega)
  have g1 : z ≠ 1734960756 := h 1 (by omega)
  have g2 : z ≠ 1651470187 := h 2 (by omega)
  have g3 : z ≠ 7364985 := h 3 (by omega)
  have g4 : z ≠ 1886151033 := h 4 (by omega)
  have g5 : z ≠ 1685221232 := h 5 (by omega)
  have g6 : z ≠ 1785686382 := h 6 (by omega)
  clear h
  simp (disch := omega) only [nmD, bdS, b2S, lit32, iA, iS, iM, iN, iLt, iLe, iE, zlT, zlF, zleT, zleF, zeT, zeF, RdI, WrI, DvI, jmaxI, jminI, jabsI, bI0, Zb0, Zb1, ZbI, ↓reduceIte, not_true_eq_false, not_false_eq_true, ite_not, and_true, true_and, and_false, false_and, and_self, fX9_manyOf, fX9_manyOf_j71, fX9_manyOf_j66, litL, lg0]
