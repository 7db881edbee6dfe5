/-! Words of commands: the class, and both together. -/
def isW (tx : Int → Int) (i : Nat) (b c : Int) : Prop := c - b = (lenS.getD i 0 : Nat) ∧ ∀ j : Nat, j < lenS.getD i 0 → iI (tx (b + j)) = chS i j
section WX
variable {tx : Int → Int} {L : Int} {t u : Nat → Int32}
theorem xIsWL (hT : Tx tx L t) (hL : L ≤ 140) {i : Nat} (hi : i < 7) {b c k : Int} (b0 : 0 ≤ b) (hc : c ≤ L) (hl : c - b = (lenS.getD i 0 : Nat)) : ∀ (m fu : Nat) (j : Nat), j + m = lenS.getD i 0 → m < fu → ((∀ j' : Nat, j ≤ j' → j' < lenS.getD i 0 → iI (tx (b + j')) = chS i j') → fX3_isWord_l20 i (t, u, iI L, iI k, iI b, iI c) fu (iI j) = some (iI 1)) ∧ ((∃ j' : Nat, j ≤ j' ∧ j' < lenS.getD i 0 ∧ iI (tx (b + j')) ≠ chS i j') → fX3_isWord_l20 i (t, u, iI L, iI k, iI b, iI c) fu (iI j) = some (iI 0)) := by
  have h5 := lenS_ok i hi
  intro m
  induction m with
  | zero =>
    intro fu j h1 h2
    obtain ⟨fu, rfl⟩ : ∃ q, fu = q + 1 := ⟨fu - 1, by omega⟩
    refine ⟨fun _ => ?_, fun ⟨j', a1, a2, a3⟩ => by omega⟩
    clear hT
    rw [fX3_isWord_l20_s]
    generalize lenS.getD i 0 = len at *
    simp (disch := omega) only [nmD, bdS, b2S, lit32, iA, iS, iM, iN, iLt, iLe, iE, zlT, zlF, zleT, zleF, zeT, zeF, RdI, WrI, DvI, jmaxI, jminI, jabsI, bI0, Zb0, Zb1, ZbI, ↓reduceIte, not_true_eq_false, not_false_eq_true, ite_not, and_true, true_and, and_false, false_and, and_self, nI_iI]
  | succ m ih =>
    intro fu j h1 h2
    obtain ⟨fu, rfl⟩ : ∃ q, fu = q + 1 := ⟨fu - 1, by omega⟩
    have hs := fun P' => xSign hT hL (P' := P') (show 0 ≤ b + (j : Int) by omega) (show b + (j : Int) < L by omega)
    have hst : fX3_isWord_l20 i (t, u, iI L, iI k, iI b, iI c) (fu + 1) (iI j) = if iI (tx (b + j)) = chS i j then fX3_isWord_l20 i (t, u, iI L, iI k, iI b, iI c) fu (iI ((j : Int) + 1)) else some (iI 0) := by
      have hrd : ∀ kk : Int32 → Option Int32, Rd (chS i) (lenS.getD i 0) (iI j) kk = kk (chS i j) := fun kk => by
        rw [RdI (by omega) (by omega) (by omega), Int.toNat_natCast]
      clear ih hT
      rw [fX3_isWord_l20_s]
      generalize lenS.getD i 0 = len at *
      simp (disch := omega) only [nmD, bdS, b2S, lit32, iA, iS, iM, iN, iLt, iLe, iE, zlT, zlF, zleT, zleF, zeT, zeF, RdI, WrI, DvI, jmaxI, jminI, jabsI, bI0, Zb0, Zb1, ZbI, ↓reduceIte, not_true_eq_false, not_false_eq_true, ite_not, and_true, true_and, and_false, false_and, and_self, nI_iI, hs, hrd]
    have e1 : ((j : Int) + 1) = ((j + 1 : Nat) : Int) := by omega
    rw [e1] at hst
    obtain ⟨g1, g2⟩ := ih fu (j + 1) (by omega) (by omega)
    refine ⟨fun h => ?_, fun ⟨j', a1, a2, a3⟩ => ?_⟩
    · rw [hst, if_pos (h j (by omega) (by omega))]
      exact g1 (fun j' p1 p2 => h j' (by omega) p2)
    · rw [hst]
      by_cases q : iI (tx (b + j)) = chS i j
      · rw [if_pos q]
        refine g2 ⟨j', ?_, a2, a3⟩
        by_cases z : j' = j
        · rw [z] at a3; exact absurd q a3
        · omega
      · rw [if_neg q]
theorem xIsW (hT : Tx tx L t) (hL : L ≤ 140) {i : Nat} (hi : i < 7) {b c k : Int} (b0 : 0 ≤ b) (bc : b ≤ c) (hc : c ≤ L) : (isW tx i b c → fX3_isWord i (t, u, iI L, iI k, iI b, iI c) = some (iI 1)) ∧ (¬ isW tx i b c → fX3_isWord i (t, u, iI L, iI k, iI b, iI c) = some (iI 0)) := by
  have h5 := lenS_ok i hi
  by_cases hl : c - b = (lenS.getD i 0 : Nat)
  · obtain ⟨g1, g2⟩ := xIsWL (u := u) (k := k) hT hL hi b0 hc hl (lenS.getD i 0) FU 0 (by omega) (by unfold FU; omega)
    have hst : fX3_isWord i (t, u, iI L, iI k, iI b, iI c) = fX3_isWord_l20 i (t, u, iI L, iI k, iI b, iI c) FU (iI (0 : Nat)) := by
      unfold fX3_isWord
      rw [if_pos]
      · rfl
      · rw [nI_iI, ← hl]
        exact (iS c b).symm
    rw [hst]
    refine ⟨fun h => g1 (fun j' _ p => h.2 j' p), fun h => g2 ?_⟩
    refine Classical.byContradiction fun z => h ⟨hl, fun j' p => ?_⟩
    exact Classical.byContradiction fun w => z ⟨j', by omega, p, w⟩
  · refine ⟨fun h => absurd h.1 hl, fun _ => ?_⟩
    unfold fX3_isWord
    rw [if_neg]
    · rfl
    · rw [nI_iI]
      show ¬ iI _ = iI c - iI b
      rw [iS, iE (by omega) (by omega) (by omega) (by omega)]
      exact fun z => hl z.symm
theorem xCmd (hT : Tx tx L t) (hL : L ≤ 140) {b c k : Int} (b0 : 0 ≤ b) (bc : b ≤ c) (hc : c ≤ L) : (∀ i : Nat, i < 7 → isW tx i b c → (∀ i' : Nat, i' < i → ¬ isW tx i' b c) → fX3_commandWord (t, u, iI L, iI k, iI b, iI c) = some (iI i)) ∧ ((∀ i : Nat, i < 7 → ¬ isW tx i b c) → fX3_commandWord (t, u, iI L, iI k, iI b, iI c) = some (iI (-1))) := by
  have w := fun (i : Nat) (hi : i < 7) => xIsW (u := u) (k := k) hT hL hi b0 bc hc
  clear hT
  refine ⟨fun i hi h1 h2 => ?_, fun h => ?_⟩
  · rcases i7 hi with rfl | rfl | rfl | rfl | rfl | rfl | rfl
    · have g0 := (w 0 (by omega)).1 h1
      clear w h1 h2
      simp (disch := omega) only [nmD, bdS, b2S, lit32, iA, iS, iM, iN, iLt, iLe, iE, zlT, zlF, zleT, zleF, zeT, zeF, RdI, WrI, DvI, jmaxI, jminI, jabsI, bI0, Zb0, Zb1, ZbI, ↓reduceIte, not_true_eq_false, not_false_eq_true, ite_not, and_true, true_and, and_false, false_and, and_self, fX3_commandWord, g0]
      rfl
    · have g0 := (w 0 (by omega)).2 (h2 0 (by omega))
      have g1 := (w 1 (by omega)).1 h1
      clear w h1 h2
      simp (disch := omega) only [nmD, bdS, b2S, lit32, iA, iS, iM, iN, iLt, iLe, iE, zlT, zlF, zleT, zleF, zeT, zeF, RdI, WrI, DvI, jmaxI, jminI, jabsI, bI0, Zb0, Zb1, ZbI, ↓reduceIte, not_true_eq_false, not_false_eq_true, ite_not, and_true, true_and, and_false, false_and, and_self, fX3_commandWord, g0, g1]
      rfl
    · have g0 := (w 0 (by omega)).2 (h2 0 (by omega))
      have g1 := (w 1 (by omega)).2 (h2 1 (by omega))
      have g2 := (w 2 (by omega)).1 h1
      clear w h1 h2
      simp (disch := omega) only [nmD, bdS, b2S, lit32, iA, iS, iM, iN, iLt, iLe, iE, zlT, zlF, zleT, zleF, zeT, zeF, RdI, WrI, DvI, jmaxI, jminI, jabsI, bI0, Zb0, Zb1, ZbI, ↓reduceIte, not_true_eq_false, not_false_eq_true, ite_not, and_true, true_and, and_false, false_and, and_self, fX3_commandWord, g0, g1, g2]
      rfl
    · have g0 := (w 0 (by omega)).2 (h2 0 (by omega))
      have g1 := (w 1 (by omega)).2 (h2 1 (by omega))
      have g2 := (w 2 (by omega)).2 (h2 2 (by omega))
      have g3 := (w 3 (by omega)).1 h1
      clear w h1 h2
      simp (disch := omega) only [nmD, bdS, b2S, lit32, iA, iS, iM, iN, iLt, iLe, iE, zlT, zlF, zleT, zleF, zeT, zeF, RdI, WrI, DvI, jmaxI, jminI, jabsI, bI0, Zb0, Zb1, ZbI, ↓reduceIte, not_true_eq_false, not_false_eq_true, ite_not, and_true, true_and, and_false, false_and, and_self, fX3_commandWord, g0, g1, g2, g3]
      rfl
    · have g0 := (w 0 (by omega)).2 (h2 0 (by omega))
      have g1 := (w 1 (by omega)).2 (h2 1 (by omega))
      have g2 := (w 2 (by omega)).2 (h2 2 (by omega))
      have g3 := (w 3 (by omega)).2 (h2 3 (by omega))
      have g4 := (w 4 (by omega)).1 h1
      clear w h1 h2
      simp (disch := omega) only [nmD, bdS, b2S, lit32, iA, iS, iM, iN, iLt, iLe, iE, zlT, zlF, zleT, zleF, zeT, zeF, RdI, WrI, DvI, jmaxI, jminI, jabsI, bI0, Zb0, Zb1, ZbI, ↓reduceIte, not_true_eq_false, not_false_eq_true, ite_not, and_true, true_and, and_false, false_and, and_self, fX3_commandWord, g0, g1, g2, g3, g4]
      rfl
    · have g0 := (w 0 (by omega)).2 (h2 0 (by omega))
      have g1 := (w 1 (by omega)).2 (h2 1 (by omega))
      have g2 := (w 2 (by omega)).2 (h2 2 (by omega))
      have g3 := (w 3 (by omega)).2 (h2 3 (by omega))
      have g4 := (w 4 (by omega)).2 (h2 4 (by omega))
      have g5 := (w 5 (by omega)).1 h1
      clear w h1 h2
      simp (disch := omega) only [nmD, bdS, b2S, lit32, iA, iS, iM, iN, iLt, iLe, iE, zlT, zlF, zleT, zleF, zeT, zeF, RdI, WrI, DvI, jmaxI, jminI, jabsI, bI0, Zb0, Zb1, ZbI, ↓reduceIte, not_true_eq_false, not_false_eq_true, ite_not, and_true, true_and, and_false, false_and, and_self, fX3_commandWord, g0, g1, g2, g3, g4, g5]
      rfl
    · have g0 := (w 0 (by omega)).2 (h2 0 (by omega))
      have g1 := (w 1 (by omega)).2 (h2 1 (by omega))
      have g2 := (w 2 (by omega)).2 (h2 2 (by omega))
      have g3 := (w 3 (by omega)).2 (h2 3 (by omega))
      have g4 := (w 4 (by omega)).2 (h2 4 (by omega))
      have g5 := (w 5 (by omega)).2 (h2 5 (by omega))
      have g6 := (w 6 (by omega)).1 h1
      clear w h1 h2
      simp (disch := omega) only [nmD, bdS, b2S, lit32, iA, iS, iM, iN, iLt, iLe, iE, zlT, zlF, zleT, zleF, zeT, zeF, RdI, WrI, DvI, jmaxI, jminI, jabsI, bI0, Zb0, Zb1, ZbI, ↓reduceIte, not_true_eq_false, not_false_eq_true, ite_not, and_true, true_and, and_false, false_and, and_self, fX3_commandWord, g0, g1, g2, g3, g4, g5, g6, fX3_commandWord_j81]
      rfl
  · have g0 := (w 0 (by omega)).2 (h 0 (by omega))
    have g1 := (w 1 (by omega)).2 (h 1 (by omega))
    have g2 := (w 2 (by omega)).2 (h 2 (by omega))
    have g3 := (w 3 (by omega)).2 (h 3 (by omega))
    have g4 := (w 4 (by omega)).2 (h 4 (by omega))
    have g5 := (w 5 (by omega)).2 (h 5 (by omega))
    have g6 := (w 6 (by omega)).2 (h 6 (by omega))
    clear w h
    simp (disch := omega) only [nmD, bdS, b2S, lit32, iA, iS, iM, iN, iLt, iLe, iE, zlT, zlF, zleT, zleF, zeT, zeF, RdI, WrI, DvI, jmaxI, jminI, jabsI, bI0, Zb0, Zb1, ZbI, ↓reduceIte, not_true_eq_false, not_false_eq_true, ite_not, and_true, true_and, and_false, false_and, and_self, fX3_commandWord, g0, g1, g2, g3, g4, g5, g6, fX3_commandWord_j81]
end WX
section WC
variable {tx : Int → Int} {L b c : Int}
theorem zz4 : zz tx b 4 = ((tx (b + (0 : Nat)) * 256 + tx (b + (1 : Nat))) * 256 + tx (b + (2 : Nat))) * 256 + tx (b + (3 : Nat)) := by
  show (((0 * 256 + tx (b + (0 : Nat))) * 256 + tx (b + (1 : Nat))) * 256 + tx (b + (2 : Nat))) * 256 + tx (b + (3 : Nat)) = _
  omega
theorem zz3 : zz tx b 3 = (tx (b + (0 : Nat)) * 256 + tx (b + (1 : Nat))) * 256 + tx (b + (2 : Nat)) := by
  show ((0 * 256 + tx (b + (0 : Nat))) * 256 + tx (b + (1 : Nat))) * 256 + tx (b + (2 : Nat)) = _
  omega
/-- a word of letters is a command's word just if its value is the word's -/
theorem isW_zz (hl : ∀ j : Int, b ≤ j → j < c → lt' (tx j)) (bc : b ≤ c) {i : Nat} (hi : i < 7) : isW tx i b c ↔ (c - b ≤ 4 ∧ zz tx b (c - b).toNat = Wd i) := by
  have hb : ∀ j : Nat, b + (j : Int) < c → 97 ≤ tx (b + j) ∧ tx (b + j) ≤ 122 := fun j hj => hl (b + j) (by omega) hj
  have four : ∀ (w0 w1 w2 w3 : Int), (97 ≤ w0 ∧ w0 ≤ 122) → (97 ≤ w1 ∧ w1 ≤ 122) → (97 ≤ w2 ∧ w2 ≤ 122) → (97 ≤ w3 ∧ w3 ≤ 122) → (lenS.getD i 0 = 4) → chS i 0 = iI w0 → chS i 1 = iI w1 → chS i 2 = iI w2 → chS i 3 = iI w3 → Wd i = ((w0 * 256 + w1) * 256 + w2) * 256 + w3 → (isW tx i b c ↔ (c - b ≤ 4 ∧ zz tx b (c - b).toNat = Wd i)) := by
    intro w0 w1 w2 w3 r0 r1 r2 r3 hlen s0 s1 s2 s3 hw
    unfold isW
    rw [hlen, hw]
    constructor
    · rintro ⟨h1, h2⟩
      have e0 := h2 0 (by omega)
      have e1 := h2 1 (by omega)
      have e2 := h2 2 (by omega)
      have e3 := h2 3 (by omega)
      have b0 := hb 0 (by omega)
      have b1 := hb 1 (by omega)
      have b2 := hb 2 (by omega)
      have b3 := hb 3 (by omega)
      rw [s0, iE (by omega) (by omega) (by omega) (by omega)] at e0
      rw [s1, iE (by omega) (by omega) (by omega) (by omega)] at e1
      rw [s2, iE (by omega) (by omega) (by omega) (by omega)] at e2
      rw [s3, iE (by omega) (by omega) (by omega) (by omega)] at e3
      refine ⟨by omega, ?_⟩
      rw [show (c - b).toNat = 4 by omega, zz4, e0, e1, e2, e3]
    · rintro ⟨h1, h2⟩
      have hk : (c - b).toNat = 4 := by
        by_cases q : (c - b).toNat ≤ 3
        · exfalso
          have := zz_b (tx := tx) (b := b) (c - b).toNat (fun j j0 j1 => hl j j0 (by omega))
          have e0 : (256 : Int) ^ 0 = 1 := by decide
          have e1 : (256 : Int) ^ 1 = 256 := by decide
          have e2 : (256 : Int) ^ 2 = 65536 := by decide
          have e3 : (256 : Int) ^ 3 = 16777216 := by decide
          rcases (show (c - b).toNat = 0 ∨ (c - b).toNat = 1 ∨ (c - b).toNat = 2 ∨ (c - b).toNat = 3 by omega) with z | z | z | z
          · rw [z] at this h2; rw [e0] at this; omega
          · rw [z] at this h2; rw [e1] at this; omega
          · rw [z] at this h2; rw [e2] at this; omega
          · rw [z] at this h2; rw [e3] at this; omega
        · omega
      have b0 := hb 0 (by omega)
      have b1 := hb 1 (by omega)
      have b2 := hb 2 (by omega)
      have b3 := hb 3 (by omega)
      rw [hk, zz4] at h2
      refine ⟨by omega, fun j hj => ?_⟩
      rcases (show j = 0 ∨ j = 1 ∨ j = 2 ∨ j = 3 by omega) with rfl | rfl | rfl | rfl
      · rw [s0]; exact congrArg iI (by omega)
      · rw [s1]; exact congrArg iI (by omega)
      · rw [s2]; exact congrArg iI (by omega)
      · rw [s3]; exact congrArg iI (by omega)
  rcases i7 hi with rfl | rfl | rfl | rfl | rfl | rfl | rfl
  · exact four 114 111 111 109 (by omega) (by omega) (by omega) (by omega) rfl rfl rfl rfl rfl rfl
  · exact four 103 105 102 116 (by omega) (by omega) (by omega) (by omega) rfl rfl rfl rfl rfl rfl
  · exact four 98 111 111 107 (by omega) (by omega) (by omega) (by omega) rfl rfl rfl rfl rfl rfl
  · clear four
    have s0 : chS 3 0 = iI 112 := rfl
    have s1 : chS 3 1 = iI 97 := rfl
    have s2 : chS 3 2 = iI 121 := rfl
    have hlen : lenS.getD 3 0 = 3 := rfl
    have hw : Wd 3 = 7364985 := rfl
    unfold isW
    rw [hlen, hw]
    constructor
    · rintro ⟨h1, h2⟩
      have e0 := h2 0 (by omega)
      have e1 := h2 1 (by omega)
      have e2 := h2 2 (by omega)
      have b0 := hb 0 (by omega)
      have b1 := hb 1 (by omega)
      have b2 := hb 2 (by omega)
      rw [s0, iE (by omega) (by omega) (by omega) (by omega)] at e0
      rw [s1, iE (by omega) (by omega) (by omega) (by omega)] at e1
      rw [s2, iE (by omega) (by omega) (by omega) (by omega)] at e2
      refine ⟨by omega, ?_⟩
      rw [show (c - b).toNat = 3 by omega, zz3, e0, e1, e2]
      rfl
    · rintro ⟨h1, h2⟩
      have hk : (c - b).toNat = 3 := by
        have := zz_b (tx := tx) (b := b) (c - b).toNat (fun j j0 j1 => hl j j0 (by omega))
        have e0 : (256 : Int) ^ 0 = 1 := by decide
        have e1 : (256 : Int) ^ 1 = 256 := by decide
        have e2 : (256 : Int) ^ 2 = 65536 := by decide
        rcases (show (c - b).toNat = 0 ∨ (c - b).toNat = 1 ∨ (c - b).toNat = 2 ∨ (c - b).toNat = 3 ∨ (c - b).toNat = 4 by omega) with z | z | z | z | z
        · rw [z] at this h2; rw [e0] at this; omega
        · rw [z] at this h2; rw [e1] at this; omega
        · rw [z] at this h2; rw [e2] at this; omega
        · exact z
        · exfalso
          have b0 := hb 0 (by omega)
          have b1 := hb 1 (by omega)
          have b2 := hb 2 (by omega)
          have b3 := hb 3 (by omega)
          rw [z, zz4] at h2
          omega
      have b0 := hb 0 (by omega)
      have b1 := hb 1 (by omega)
      have b2 := hb 2 (by omega)
      rw [hk, zz3] at h2
      refine ⟨by omega, fun j hj => ?_⟩
      rcases (show j = 0 ∨ j = 1 ∨ j = 2 by omega) with rfl | rfl | rfl
      · rw [s0]; exact congrArg iI (by omega)
      · rw [s1]; exact congrArg iI (by omega)
      · rw [s2]; exact congrArg iI (by omega)
  · exact four 112 108 97 121 (by omega) (by omega) (by omega) (by omega) rfl rfl rfl rfl rfl rfl
  · exact four 100 114 111 112 (by omega) (by omega) (by omega) (by omega) rfl rfl rfl rfl rfl rfl
  · exact four 106 111 105 110 (by omega) (by omega) (by omega) (by omega) rfl rfl rfl rfl rfl rfl
theorem Wd_inj {i j : Nat} (hi : i < 7) (hj : j < 7) (h : Wd i = Wd j) : i = j := by
  have w0 : Wd 0 = 1919905645 := rfl
  have w1 : Wd 1 = 1734960756 := rfl
  have w2 : Wd 2 = 1651470187 := rfl
  have w3 : Wd 3 = 7364985 := rfl
  have w4 : Wd 4 = 1886151033 := rfl
  have w5 : Wd 5 = 1685221232 := rfl
  have w6 : Wd 6 = 1785686382 := rfl
  rcases i7 hi with rfl | rfl | rfl | rfl | rfl | rfl | rfl <;> rcases i7 hj with rfl | rfl | rfl | rfl | rfl | rfl | rfl <;> omega
end WC
